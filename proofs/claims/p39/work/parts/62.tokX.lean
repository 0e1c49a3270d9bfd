/-! THE CLASS'S TEXT AND ITS BYTES. -/
/-- a byte as a signed number -/
def sx (b : Nat) : Int32 := if b < 128 then nI b else nI b - 256
theorem sx_byte {b : Nat} (h : b < 256) : sx b &&& (255 : Int32) = nI b := by
  have := (show ∀ b, b < 256 → sx b &&& (255 : Int32) = nI b by decide +kernel)
  exact this b h
theorem sx_10 {b : Nat} (h : b < 256) : sx b = 10 ↔ b = 10 := (show ∀ b, b < 256 → (sx b = 10 ↔ b = 10) by decide +kernel) b h
theorem sx_35 {b : Nat} (h : b < 256) : sx b = 35 ↔ b = 35 := (show ∀ b, b < 256 → (sx b = 35 ↔ b = 35) by decide +kernel) b h
theorem sx_9 {b : Nat} (h : b < 256) : sx b = 9 ↔ b = 9 := (show ∀ b, b < 256 → (sx b = 9 ↔ b = 9) by decide +kernel) b h
theorem sx_13 {b : Nat} (h : b < 256) : sx b = 13 ↔ b = 13 := (show ∀ b, b < 256 → (sx b = 13 ↔ b = 13) by decide +kernel) b h
theorem sx_32 {b : Nat} (h : b < 256) : sx b = 32 ↔ b = 32 := (show ∀ b, b < 256 → (sx b = 32 ↔ b = 32) by decide +kernel) b h
/-- the class's text: n bytes B -/
abbrev TX (σ : qS) (n : Nat) (B : Nat → Nat) : Prop := σ.1 1 5 = nI n ∧ n ≤ 4000 ∧ (∀ i : Nat, i < n → B i < 256) ∧ ∀ i : Nat, i < n → σ.1 2 i = sx (B i)
theorem TX.len {σ : qS} {n : Nat} {B : Nat → Nat} (h : TX σ n B) : σ.1 1 5 = nI n := h.1
theorem TX.le {σ : qS} {n : Nat} {B : Nat → Nat} (h : TX σ n B) : n ≤ 4000 := h.2.1
theorem TX.byte {σ : qS} {n : Nat} {B : Nat → Nat} (h : TX σ n B) : ∀ i : Nat, i < n → B i < 256 := h.2.2.1
theorem TX.text {σ : qS} {n : Nat} {B : Nat → Nat} (h : TX σ n B) : ∀ i : Nat, i < n → σ.1 2 i = sx (B i) := h.2.2.2
theorem uI_uI {σ : qS} {a k : Nat} {v w : Int32} : uI (uI σ a k v) a k w = uI σ a k w := by
  unfold uI
  refine Prod.ext (funext fun b => funext fun j => ?_) rfl
  show (if b = a ∧ j = k then w else if b = a ∧ j = k then v else σ.1 b j) = (if b = a ∧ j = k then w else σ.1 b j)
  by_cases h : b = a ∧ j = k
  · rw [if_pos h, if_pos h]
  · rw [if_neg h, if_neg h, if_neg h]
theorem uI_eq {σ : qS} {a k : Nat} {v : Int32} (h : σ.1 a k = v) : uI σ a k v = σ := by
  unfold uI
  refine Prod.ext (funext fun b => funext fun j => ?_) rfl
  show (if b = a ∧ j = k then v else σ.1 b j) = σ.1 b j
  by_cases q : b = a ∧ j = k
  · rw [if_pos q, q.1, q.2, h]
  · rw [if_neg q]
theorem uJ_uJ {σ : qS} {a k : Nat} {v w : Int64} : uJ (uJ σ a k v) a k w = uJ σ a k w := by
  unfold uJ
  refine Prod.ext rfl (Prod.ext (funext fun b => funext fun j => ?_) rfl)
  show (if b = a ∧ j = k then w else if b = a ∧ j = k then v else σ.2.1 b j) = (if b = a ∧ j = k then w else σ.2.1 b j)
  by_cases h : b = a ∧ j = k
  · rw [if_pos h, if_pos h]
  · rw [if_neg h, if_neg h, if_neg h]
theorem uJ_uI {σ : qS} {a k b j : Nat} {v : Int32} {w : Int64} : uJ (uI σ a k v) b j w = uI (uJ σ b j w) a k v := rfl
theorem uI_sw {σ : qS} {a k b j : Nat} {v w : Int32} (h : ¬ (a = b ∧ k = j)) : uI (uI σ a k v) b j w = uI (uI σ b j w) a k v := by
  unfold uI
  refine Prod.ext (funext fun c => funext fun i => ?_) rfl
  show (if c = b ∧ i = j then w else if c = a ∧ i = k then v else σ.1 c i) = (if c = a ∧ i = k then v else if c = b ∧ i = j then w else σ.1 c i)
  by_cases h1 : c = b ∧ i = j
  · rw [if_pos h1, if_neg (fun q => h ⟨q.1.symm.trans h1.1, q.2.symm.trans h1.2⟩), if_pos h1]
  · rw [if_neg h1, if_neg h1]
/-- the fields of the class's tokens leave the text as it is -/
theorem TX.uI {σ : qS} {n k : Nat} {B : Nat → Nat} {v : Int32} (h : TX σ n B) (hk : k ≠ 5) : TX (uI σ 1 k v) n B := by
  refine ⟨?_, h.le, h.byte, fun i hi => ?_⟩
  · rw [g_I, if_neg (fun q => hk q.2.symm)]
    exact h.len
  · rw [g_I, if_neg (fun q => absurd q.1 (by decide))]
    exact h.text i hi
theorem TX.uJ {σ : qS} {n a k : Nat} {B : Nat → Nat} {v : Int64} (h : TX σ n B) : TX (uJ σ a k v) n B := ⟨h.len, h.le, h.byte, h.text⟩
/-! blanks -/
/-- where the next token begins: k bytes are left from p on; r: within a remark -/
def skp (B : Nat → Nat) : Nat → Bool → Nat → Nat
  | 0, _, p => p
  | k + 1, r, p => if B p = 10 then skp B k false (p + 1) else if B p = 35 then skp B k true (p + 1) else if r = true ∨ B p = 9 ∨ B p = 13 ∨ B p = 32 then skp B k r (p + 1) else p
theorem skp_ge {B : Nat → Nat} : ∀ (k : Nat) (r : Bool) (p : Nat), p ≤ skp B k r p ∧ skp B k r p ≤ p + k := by
  intro k
  induction k with
  | zero => intro r p; exact ⟨Nat.le_refl _, Nat.le_refl _⟩
  | succ k ih =>
    intro r p
    unfold skp
    split
    · have := ih false (p + 1); omega
    · split
      · have := ih true (p + 1); omega
      · split
        · have := ih r (p + 1); omega
        · omega
def rmk (r : Bool) : Int32 := if r = true then 1 else 0
theorem c_skip {en : pN} {d n : Nat} {B : Nat → Nat} : ∀ (k : Nat) (r : Bool) (p : Nat) (σ : qS), TX σ n B → σ.1 1 7 = nI p → p + k = n → L_X9_skipBlanks_2 en d (rmk r) σ = some (none, uI σ 1 7 (nI (skp B k r p))) := by
  intro k
  induction k with
  | zero =>
    intro r p σ hT hp hk
    refine le_X9_skipBlanks_2 en d (rmk r) σ _ ?_
    rw [if_pos (by rw [hT.len, hp]; exact nI_le (by omega) (by have := hT.le; omega))]
    show some (none, σ) = some (none, uI σ 1 7 (nI p))
    rw [uI_eq hp]
  | succ k ih =>
    intro r p σ hT hp hk
    have hn := hT.le
    have hB := hT.byte p (by omega)
    refine le_X9_skipBlanks_2 en d (rmk r) σ _ ?_
    rw [if_neg (by rw [hT.len, hp]; exact nI_ge (by omega) (by omega)), hp, gd_true (inB_nI (by omega) (by decide)), nm_eq, nI_clamp (by omega), hT.text p (by omega)]
    have go : ∀ r' : Bool, L_X9_skipBlanks_68 en d (rmk r') σ = some (none, uI σ 1 7 (nI (skp B k r' (p + 1)))) := by
      intro r'
      refine le_X9_skipBlanks_68 en d (rmk r') σ _ ?_
      rw [nm_eq, hp, nI_1, ih r' (p + 1) (uI σ 1 7 (nI (p + 1))) (hT.uI (by decide)) rfl (by omega), uI_uI]
    unfold skp
    by_cases h10 : B p = 10
    · rw [if_neg (not_not_intro ((sx_10 hB).mpr h10)), if_pos h10]
      exact go false
    · rw [if_pos (fun q => h10 ((sx_10 hB).mp q)), if_neg h10]
      by_cases h35 : B p = 35
      · rw [if_neg (not_not_intro ((sx_35 hB).mpr h35)), if_pos h35]
        exact go true
      · rw [if_pos (fun q => h35 ((sx_35 hB).mp q)), if_neg h35]
        cases r with
        | true =>
          rw [if_pos (show ¬ rmk true = 0 by decide), if_pos (Or.inl rfl)]
          exact go true
        | false =>
          rw [if_neg (show ¬ ¬ rmk false = 0 by decide)]
          by_cases h9 : B p = 9
          · rw [if_pos ((sx_9 hB).mpr h9), if_pos (Or.inr (Or.inl h9))]
            exact go false
          · rw [if_neg (fun q => h9 ((sx_9 hB).mp q))]
            by_cases h13 : B p = 13
            · rw [if_pos ((sx_13 hB).mpr h13), if_pos (Or.inr (Or.inr (Or.inl h13)))]
              exact go false
            · rw [if_neg (fun q => h13 ((sx_13 hB).mp q))]
              by_cases h32 : B p = 32
              · rw [if_pos ((sx_32 hB).mpr h32), if_pos (Or.inr (Or.inr (Or.inr h32)))]
                exact go false
              · rw [if_neg (fun q => h32 ((sx_32 hB).mp q)), if_neg (by rintro (q | q | q | q) <;> first | cases q | omega)]
                show some (none, σ) = some (none, uI σ 1 7 (nI p))
                rw [uI_eq hp]
theorem c_skipBlanks {en : pN} {d n p : Nat} {B : Nat → Nat} {σ : qS} (hT : TX σ n B) (hp : σ.1 1 7 = nI p) (h : p ≤ n) : qev en (d + 1) 171 [.ref 1] σ = some (none, uI σ 1 7 (nI (skp B (n - p) false p))) :=
  le_X9_skipBlanks en d σ _ (c_skip (n - p) false p σ hT hp (by omega))
/-! letters, digits -/
def ltr (b : Nat) : Bool := decide (97 ≤ b ∧ b ≤ 122) || decide (65 ≤ b ∧ b ≤ 90)
def dgt (b : Nat) : Bool := decide (48 ≤ b ∧ b ≤ 57)
def wch (b : Nat) : Bool := ltr b || dgt b || decide (b = 95)
def tI (b : Bool) : Int32 := if b = true then 1 else 0
theorem tI0 {b : Bool} : tI b = 0 ↔ b = false := by cases b <;> decide
theorem c_isLetter {en : pN} {d b : Nat} {σ : qS} (h : b < 256) : qev en (d + 1) 169 [.int (nI b)] σ = some (some (.int (tI (ltr b))), σ) := by
  refine le_X9_isLetter en d (nI b) σ _ ?_
  have hL : L_X9_isLetter_12 en d (nI b) σ = some (some (.int (tI (decide (65 ≤ b ∧ b ≤ 90)))), σ) := by
    refine le_X9_isLetter_12 en d (nI b) σ _ ?_
    by_cases h1 : b < 65
    · rw [if_pos (show nI b < (65 : Int32) from nI_lt (b := 65) h1 (by decide)), decide_eq_false (by omega)]; rfl
    · rw [if_neg (show ¬ nI b < (65 : Int32) from nI_nlt (b := 65) (by omega) (by omega))]
      by_cases h2 : 90 < b
      · rw [if_pos (show (90 : Int32) < nI b from nI_lt (a := 90) h2 (by omega)), decide_eq_false (by omega)]; rfl
      · rw [if_neg (show ¬ (90 : Int32) < nI b from nI_nlt (b := b) (a := 90) (by omega) (by decide)), decide_eq_true (by omega)]; rfl
  unfold ltr
  by_cases h1 : b < 97
  · rw [if_pos (show nI b < (97 : Int32) from nI_lt (b := 97) h1 (by decide)), hL, decide_eq_false (show ¬ (97 ≤ b ∧ b ≤ 122) by omega), Bool.false_or]
  · rw [if_neg (show ¬ nI b < (97 : Int32) from nI_nlt (b := 97) (by omega) (by omega))]
    by_cases h2 : b ≤ 122
    · rw [if_pos (show nI b ≤ (122 : Int32) from nI_le (b := 122) h2 (by decide)), decide_eq_true (show 97 ≤ b ∧ b ≤ 122 by omega), Bool.true_or]; rfl
    · rw [if_neg (show ¬ nI b ≤ (122 : Int32) from nI_ge (a := 122) (by omega) (by omega)), hL, decide_eq_false (show ¬ (97 ≤ b ∧ b ≤ 122) by omega), Bool.false_or]
theorem c_isDigit {en : pN} {d b : Nat} {σ : qS} (h : b < 256) : qev en (d + 1) 170 [.int (nI b)] σ = some (some (.int (tI (dgt b))), σ) := by
  refine le_X9_isDigit en d (nI b) σ _ ?_
  unfold dgt
  by_cases h1 : b < 48
  · rw [if_pos (show nI b < (48 : Int32) from nI_lt (b := 48) h1 (by decide)), decide_eq_false (by omega)]; rfl
  · rw [if_neg (show ¬ nI b < (48 : Int32) from nI_nlt (b := 48) (by omega) (by omega))]
    by_cases h2 : 57 < b
    · rw [if_pos (show (57 : Int32) < nI b from nI_lt (a := 57) h2 (by omega)), decide_eq_false (by omega)]; rfl
    · rw [if_neg (show ¬ (57 : Int32) < nI b from nI_nlt (b := b) (a := 57) (by omega) (by decide)), decide_eq_true (by omega)]; rfl
/-- the byte at a place; 256 behind the end -/
def byt (B : Nat → Nat) (n p : Nat) : Nat := if p < n then B p else 256
def bI_ (b : Nat) : Int32 := if b < 256 then nI b else -1
theorem c_byteAt {en : pN} {d n p : Nat} {B : Nat → Nat} {σ : qS} (hT : TX σ n B) (hp : p ≤ 4001) : qev en (d + 1) 168 [.ref 1, .int (nI p)] σ = some (some (.int (bI_ (byt B n p))), σ) := by
  refine le_X9_byteAt en d (nI p) σ _ ?_
  have hn := hT.le
  unfold byt
  by_cases h : p < n
  · rw [hT.len, if_neg (nI_ge h (by omega)), gd_true (inB_nI (by omega) (by decide)), nI_clamp (by omega), hT.text p h, sx_byte (hT.byte p h), if_pos h]
    unfold bI_
    rw [if_pos (hT.byte p h)]
  · rw [hT.len, if_pos (nI_le (by omega) (by omega)), if_neg h]
    rfl
/-! words, numbers, signs -/
def wnd (P : Nat → Bool) (B : Nat → Nat) : Nat → Nat → Nat
  | 0, p => p
  | k + 1, p => if P (B p) = true then wnd P B k (p + 1) else p
def wcd (P : Nat → Bool) (f : Int64 → Nat → Int64) (B : Nat → Nat) : Nat → Nat → Int64 → Int64
  | 0, _, m => m
  | k + 1, p, m => if P (B p) = true then wcd P f B k (p + 1) (f m (B p)) else m
theorem wnd_ge {P : Nat → Bool} {B : Nat → Nat} : ∀ k p : Nat, p ≤ wnd P B k p ∧ wnd P B k p ≤ p + k := by
  intro k
  induction k with
  | zero => intro p; exact ⟨Nat.le_refl _, Nat.le_refl _⟩
  | succ k ih =>
    intro p
    unfold wnd
    split
    · have := ih (p + 1); omega
    · omega
def f7 (m : Int64) (b : Nat) : Int64 := (m <<< ((7 : Int32).toInt64 &&& 63)) ||| (nI b).toInt64
def f10 (m : Int64) (b : Nat) : Int64 := ((m * (10 : Int64)) + (nI b).toInt64) - (48 : Int64)
theorem byt_lt {B : Nat → Nat} {n p : Nat} (h : p < n) : byt B n p = B p := if_pos h
theorem bI_lt {b : Nat} (h : b < 256) : bI_ b = nI b := if_pos h
theorem nI_is {b c : Nat} (hb : b < 256) (hc : c < 256) : nI b = nI c ↔ b = c := nI_eq (by omega) (by omega)
/-- where the word's loop goes on: its state -/
def wS (σ : qS) (q : Nat) (m : Int64) : qS := uI (uJ σ 1 11 m) 1 7 (nI q)
theorem wS_wS {σ : qS} {q q' : Nat} {m m' : Int64} : wS (wS σ q m) q' m' = wS σ q' m' := by
  unfold wS
  rw [uJ_uI, uJ_uJ, uI_uI]
theorem TX.wS {σ : qS} {n q : Nat} {B : Nat → Nat} {m : Int64} (h : TX σ n B) : TX (wS σ q m) n B := h.uJ.uI (by decide)
theorem wS_rf {σ : qS} {p : Nat} (hp : σ.1 1 7 = nI p) : σ = wS σ p (σ.2.1 1 11) := by
  unfold wS
  have e : uJ σ 1 11 (σ.2.1 1 11) = σ := by
    unfold uJ
    refine Prod.ext rfl (Prod.ext (funext fun b => funext fun j => ?_) rfl)
    show (if b = 1 ∧ j = 11 then σ.2.1 1 11 else σ.2.1 b j) = σ.2.1 b j
    by_cases q : b = 1 ∧ j = 11
    · rw [if_pos q, q.1, q.2]
    · rw [if_neg q]
  rw [e, uI_eq hp]
theorem c_wordRun {en : pN} {d n : Nat} {B : Nat → Nat} {r : qR} : ∀ (k p : Nat) (σ : qS), TX σ n B → σ.1 1 7 = nI p → p + k = n →
    L_X9_cutWord_70 en (d + 1) (wS σ (wnd wch B k p) (wcd wch f7 B k p (σ.2.1 1 11))) = some r → L_X9_cutWord_0 en (d + 1) σ = some r := by
  intro k
  induction k with
  | zero =>
    intro p σ hT hp hk hr
    refine le_X9_cutWord_0 en (d + 1) σ r ?_
    rw [if_pos (by rw [hT.len, hp]; exact nI_le (by omega) (by have := hT.le; omega)), wS_rf hp]
    exact hr
  | succ k ih =>
    intro p σ hT hp hk hr
    have hn := hT.le
    have hB := hT.byte p (by omega)
    refine le_X9_cutWord_0 en (d + 1) σ r ?_
    rw [if_neg (by rw [hT.len, hp]; exact nI_ge (by omega) (by omega)), hp, c_byteAt hT (by omega), byt_lt (by omega), bI_lt hB, bI_some, c_isLetter hB, bI_some]
    have go : wch (B p) = true → L_X9_cutWord_43 en (d + 1) (nI (B p)) σ = some r := by
      intro hw
      refine le_X9_cutWord_43 en (d + 1) (nI (B p)) σ r ?_
      rw [nm_eq, nm_eq, show (uJ σ 1 11 (((σ.2.1 1 11) <<< ((7 : Int32).toInt64 &&& 63)) ||| (nI (B p)).toInt64)).1 1 7 = nI p from hp, nI_1]
      refine ih (p + 1) (wS σ (p + 1) (f7 (σ.2.1 1 11) (B p))) hT.wS rfl (by omega) ?_
      rw [wS_wS]
      unfold wnd wcd at hr
      rw [if_pos hw, if_pos hw] at hr
      exact hr
    have stop : wch (B p) = false → L_X9_cutWord_70 en (d + 1) σ = some r := by
      intro hw
      unfold wnd wcd at hr
      rw [if_neg (by rw [hw]; decide), if_neg (by rw [hw]; decide), ← wS_rf hp] at hr
      exact hr
    by_cases h1 : ltr (B p) = true
    · rw [if_pos (fun q => absurd (tI0.mp q) (by rw [h1]; decide))]
      exact go (by unfold wch; rw [h1]; rfl)
    · have h1 : ltr (B p) = false := by revert h1; cases ltr (B p) <;> simp
      rw [if_neg (not_not_intro (tI0.mpr h1)), c_isDigit hB, bI_some]
      by_cases h2 : dgt (B p) = true
      · rw [if_pos (fun q => absurd (tI0.mp q) (by rw [h2]; decide))]
        exact go (by unfold wch; rw [h1, h2]; rfl)
      · have h2 : dgt (B p) = false := by revert h2; cases dgt (B p) <;> simp
        rw [if_neg (not_not_intro (tI0.mpr h2))]
        by_cases h3 : B p = 95
        · rw [if_pos (show nI (B p) = (95 : Int32) from (nI_is hB (c := 95) (by decide)).mpr h3)]
          exact go (by unfold wch; rw [h1, h2, h3]; rfl)
        · rw [if_neg (show ¬ nI (B p) = (95 : Int32) from fun q => h3 ((nI_is hB (c := 95) (by decide)).mp q))]
          exact stop (by unfold wch; rw [h1, h2, decide_eq_false h3]; rfl)
/-- the kind of a word by its meaning: a key word, or a name; i keys are left -/
def kwd (K : Nat → Int64) (m : Int64) : Nat → Nat → Nat
  | 0, _ => 2
  | k + 1, i => if K i = m then 300 + i else kwd K m k (i + 1)
theorem lgc0 {a b : Int64} : lg_cmp a b = 0 ↔ a = b := by
  unfold lg_cmp
  by_cases h : a > b
  · rw [if_pos h]
    constructor
    · intro q; exact absurd q (by decide)
    · intro q
      rw [q] at h
      exact absurd h (by simp [gt_iff_lt, Int64.lt_iff_toInt_lt])
  · rw [if_neg h]
    by_cases q : a = b
    · rw [if_pos q]; exact ⟨fun _ => q, fun _ => rfl⟩
    · rw [if_neg q]; exact ⟨fun z => absurd z (by decide), fun z => absurd z q⟩
theorem c_keys {en : pN} {d : Nat} {m : Int64} : ∀ (k i : Nat) (σ : qS), i + k = 33 → σ.1 1 9 = 2 → σ.2.1 1 11 = m → L_X9_cutWord_95 en d (nI i) σ = some (none, uI σ 1 9 (nI (kwd (σ.2.1 3) m k i))) := by
  intro k
  induction k with
  | zero =>
    intro i σ hi h9 hm
    refine le_X9_cutWord_95 en d (nI i) σ _ ?_
    rw [if_pos (show (33 : Int32) ≤ nI i from nI_le (a := 33) (by omega) (by omega))]
    show some (none, σ) = some (none, uI σ 1 9 2)
    rw [uI_eq h9]
  | succ k ih =>
    intro i σ hi h9 hm
    refine le_X9_cutWord_95 en d (nI i) σ _ ?_
    rw [if_neg (show ¬ (33 : Int32) ≤ nI i from nI_ge (b := 33) (by omega) (by decide)), h9, if_neg (not_not_intro rfl), gd_true (inB_nI (by omega) (by decide)), nI_clamp (by omega), hm, nI_1]
    unfold kwd
    by_cases h : σ.2.1 3 i = m
    · rw [if_neg (not_not_intro (lgc0.mpr h)), if_pos h, nm_eq]
      refine le_X9_cutWord_95 en d _ _ _ ?_
      have e : (300 : Int32) + nI i = nI (300 + i) := nI_add 300 i
      rw [e]
      by_cases h33 : (33 : Int32) ≤ nI (i + 1)
      · rw [if_pos h33]
      · rw [if_neg h33, if_pos]
        show ¬ nI (300 + i) = nI 2
        rw [nI_eq (by omega) (by decide)]
        omega
    · rw [if_pos (fun q => h (lgc0.mp q)), if_neg h]
      exact ih (i + 1) σ (by omega) h9 hm
/-- the word's kind: broken, a key, a name -/
def wkd (K : Nat → Int64) (m : Int64) (len : Nat) : Nat := if len ≤ 8 then kwd K m 33 0 else 1
theorem nI_sub {a b : Nat} (h : b ≤ a) : nI a - nI b = nI (a - b) := by
  obtain ⟨c, rfl⟩ : ∃ c, a = c + b := ⟨a - b, by omega⟩
  rw [← nI_add, Nat.add_sub_cancel]
  exact Int32.add_sub_cancel _ _
theorem c_wordEnd {en : pN} {d e p : Nat} {σ : qS} (h7 : σ.1 1 7 = nI e) (h10 : σ.1 1 10 = nI p) (h : p ≤ e) (he : e ≤ 4000) : L_X9_cutWord_70 en d σ = some (none, uI σ 1 9 (nI (wkd (σ.2.1 3) (σ.2.1 1 11) (e - p)))) := by
  refine le_X9_cutWord_70 en d σ _ ?_
  rw [h7, h10, nI_sub h]
  unfold wkd
  by_cases h8 : e - p ≤ 8
  · rw [if_pos (show nI (e - p) ≤ (8 : Int32) from nI_le (b := 8) h8 (by decide)), if_pos h8]
    refine le_X9_cutWord_90 en d _ σ _ ?_
    rw [nm_eq, show (0 : Int32) = nI 0 from rfl, c_keys 33 0 (uI σ 1 9 2) rfl rfl rfl, uI_uI]
    rfl
  · rw [if_neg (show ¬ nI (e - p) ≤ (8 : Int32) from nI_ge (a := 8) (by omega) (by omega)), if_neg h8]
    refine le_X9_cutWord_90 en d _ σ _ ?_
    rw [nm_eq]
    refine le_X9_cutWord_95 en d _ _ _ ?_
    rw [if_neg (by decide), if_pos (by show ¬ (1 : Int32) = 2; decide : ¬ (uI σ 1 9 1).1 1 9 = 2)]
    rfl
theorem c_cutWord {en : pN} {d n p : Nat} {B : Nat → Nat} {σ : qS} (hT : TX σ n B) (h7 : σ.1 1 7 = nI p) (h10 : σ.1 1 10 = nI p) (h : p ≤ n) : qev en (d + 2) 173 [.ref 1] σ = some (none, uI (wS σ (wnd wch B (n - p) p) (wcd wch f7 B (n - p) p (σ.2.1 1 11))) 1 9 (nI (wkd (σ.2.1 3) (wcd wch f7 B (n - p) p (σ.2.1 1 11)) (wnd wch B (n - p) p - p)))) := by
  have hn := hT.le
  have hw := wnd_ge (P := wch) (B := B) (n - p) p
  refine le_X9_cutWord en (d + 1) σ _ (c_wordRun (n - p) p σ hT h7 (by omega) ?_)
  exact c_wordEnd (σ := wS σ (wnd wch B (n - p) p) (wcd wch f7 B (n - p) p (σ.2.1 1 11))) (e := wnd wch B (n - p) p) (p := p) rfl h10 (by omega) (by omega)
theorem c_numRun {en : pN} {d n : Nat} {B : Nat → Nat} {r : qR} : ∀ (k p : Nat) (σ : qS), TX σ n B → σ.1 1 7 = nI p → p + k = n →
    L_X9_cutNumber_64 en (d + 1) (wS σ (wnd dgt B k p) (wcd dgt f10 B k p (σ.2.1 1 11))) = some r → L_X9_cutNumber_0 en (d + 1) σ = some r := by
  intro k
  induction k with
  | zero =>
    intro p σ hT hp hk hr
    refine le_X9_cutNumber_0 en (d + 1) σ r ?_
    rw [if_pos (by rw [hT.len, hp]; exact nI_le (by omega) (by have := hT.le; omega)), wS_rf hp]
    exact hr
  | succ k ih =>
    intro p σ hT hp hk hr
    have hn := hT.le
    have hB := hT.byte p (by omega)
    refine le_X9_cutNumber_0 en (d + 1) σ r ?_
    rw [if_neg (by rw [hT.len, hp]; exact nI_ge (by omega) (by omega)), hp, c_byteAt hT (by omega), byt_lt (by omega), bI_lt hB, bI_some, c_isDigit hB, bI_some]
    unfold wnd wcd at hr
    by_cases h2 : dgt (B p) = true
    · rw [if_neg (fun q => absurd (tI0.mp q) (by rw [h2]; decide)), hp, c_byteAt hT (by omega), byt_lt (by omega), bI_lt hB, bI_some, nm_eq, nm_eq]
      rw [if_pos h2, if_pos h2] at hr
      rw [show ∀ m : Int64, (uJ σ 1 11 m).1 1 7 = nI p from fun _ => hp, nI_1]
      refine ih (p + 1) (wS σ (p + 1) (f10 (σ.2.1 1 11) (B p))) hT.wS rfl (by omega) ?_
      rw [wS_wS]
      exact hr
    · have h2 : dgt (B p) = false := by revert h2; cases dgt (B p) <;> simp
      rw [if_pos (tI0.mpr h2)]
      rw [if_neg (by rw [h2]; decide), if_neg (by rw [h2]; decide), ← wS_rf hp] at hr
      exact hr
def nkd (len : Nat) : Nat := if len ≤ 3 then 3 else 1
theorem c_cutNumber {en : pN} {d n p : Nat} {B : Nat → Nat} {σ : qS} (hT : TX σ n B) (h7 : σ.1 1 7 = nI p) (h10 : σ.1 1 10 = nI p) (h : p ≤ n) : qev en (d + 2) 174 [.ref 1] σ = some (none, uI (wS σ (wnd dgt B (n - p) p) (wcd dgt f10 B (n - p) p (σ.2.1 1 11))) 1 9 (nI (nkd (wnd dgt B (n - p) p - p)))) := by
  have hn := hT.le
  have hw := wnd_ge (P := dgt) (B := B) (n - p) p
  refine le_X9_cutNumber en (d + 1) σ _ (c_numRun (n - p) p σ hT h7 (by omega) ?_)
  generalize wnd dgt B (n - p) p = e at hw
  refine le_X9_cutNumber_64 en (d + 1) _ _ ?_
  rw [show (wS σ e (wcd dgt f10 B (n - p) p (σ.2.1 1 11))).1 1 7 = nI e from rfl, show (wS σ e (wcd dgt f10 B (n - p) p (σ.2.1 1 11))).1 1 10 = nI p from h10, nI_sub hw.1]
  unfold nkd
  by_cases h8 : e - p ≤ 3
  · rw [if_pos (show nI (e - p) ≤ (3 : Int32) from nI_le (b := 3) h8 (by decide)), if_pos h8]
    exact le_X9_cutNumber_83 en (d + 1) _ _ _ rfl
  · rw [if_neg (show ¬ nI (e - p) ≤ (3 : Int32) from nI_ge (a := 3) (by omega) (by omega)), if_neg h8]
    exact le_X9_cutNumber_83 en (d + 1) _ _ _ rfl
/-! signs -/
def sgn (b : Nat) : Bool := [123, 125, 40, 41, 59, 44, 61, 43, 45, 42, 60, 62, 38, 124, 33, 46].contains b
def two_ (b : Nat) : Bool := [61, 33, 60, 62].contains b
theorem c_idx {en : pN} {d : Nat} {v : Int32} {s : qS} : ∀ k i : Nat, i + k = 16 → ∃ w : Int32, L_J1_indexOfChar_4cfef_7 en d 16 v (nI i) s = some (some (.int w), s) ∧ ((0 : Int32) ≤ w ↔ ∃ j, i ≤ j ∧ j < 16 ∧ (stBy 2).getD j 0 = v) := by
  intro k
  induction k with
  | zero =>
    intro i hi
    refine ⟨-1, le_J1_indexOfChar_4cfef_7 en d 16 v (nI i) s _ (if_pos (show (16 : Int32) ≤ nI i from nI_le (a := 16) (by omega) (by omega))), fun h => absurd h (by decide), ?_⟩
    rintro ⟨j, h1, h2, -⟩
    omega
  | succ k ih =>
    intro i hi
    by_cases h : (stBy 2).getD i 0 = v
    · refine ⟨nI i, le_J1_indexOfChar_4cfef_7 en d 16 v (nI i) s _ ?_, fun _ => ⟨i, Nat.le_refl _, by omega, h⟩, fun _ => nI_le (a := 0) (by omega) (by omega)⟩
      rw [if_neg (show ¬ (16 : Int32) ≤ nI i from nI_ge (b := 16) (by omega) (by decide)), gd_true (inB_nI (by omega) (by decide)), nI_clamp (by omega), if_neg (not_not_intro h)]
    · obtain ⟨w, h1, h2⟩ := ih (i + 1) (by omega)
      refine ⟨w, le_J1_indexOfChar_4cfef_7 en d 16 v (nI i) s _ ?_, h2.trans ⟨fun ⟨j, a, b, c⟩ => ⟨j, by omega, b, c⟩, fun ⟨j, a, b, c⟩ => ⟨j, ?_, b, c⟩⟩⟩
      · rw [if_neg (show ¬ (16 : Int32) ≤ nI i from nI_ge (b := 16) (by omega) (by decide)), gd_true (inB_nI (by omega) (by decide)), nI_clamp (by omega), if_pos h, nI_1]
        exact h1
      · rcases Nat.lt_or_ge i j with z | z
        · omega
        · exfalso
          have : j = i := by omega
          rw [this] at c
          exact h c
theorem sg_is {b : Nat} (h : b < 256) : (∃ j, 0 ≤ j ∧ j < 16 ∧ (stBy 2).getD j 0 = (nI b).toInt8.toInt32) ↔ sgn b = true := by
  have k := (show ∀ b, b < 256 → ((List.range 16).any (fun j => decide ((stBy 2).getD j 0 = (nI b).toInt8.toInt32)) = sgn b) by decide +kernel) b h
  rw [← k, List.any_eq_true]
  constructor
  · rintro ⟨j, -, h1, h2⟩
    exact ⟨j, List.mem_range.mpr h1, decide_eq_true h2⟩
  · rintro ⟨j, h1, h2⟩
    exact ⟨j, Nat.zero_le _, List.mem_range.mp h1, of_decide_eq_true h2⟩
theorem c_indexOf {en : pN} {d b : Nat} {s : qS} (h : b < 256) : ∃ w : Int32, qev en (d + 4) 415 [.retAddr 3, .int (nI b)] s = some (some (.int w), s) ∧ ((0 : Int32) ≤ w ↔ sgn b = true) := by
  obtain ⟨w, h1, h2⟩ := c_idx (en := en) (d := d) (v := (nI b).toInt8.toInt32) (s := s) 16 0 rfl
  refine ⟨w, le_J0_indexOf_0f7a4 en (d + 3) (nI b) s _ ?_, h2.trans (sg_is h)⟩
  have hl : ∀ d : Nat, qev en (d + 2) 413 [.retAddr 3] s = some (some (.int 16), s) := by
    intro d
    refine le_J0_length_8abf5 en (d + 1) s _ ?_
    rw [le_J0_coder_7d493 en d s _ (if_neg (by decide)), bI_some]
    rfl
  have h416 : qev en (d + 3) 416 [.retAddr 3, .int (nI b), .int 0] s = some (some (.int w), s) := by
    refine le_J0_indexOf_7cf53 en (d + 2) (nI b) 0 s _ ?_
    have e1 : qev en (d + 2) 418 [.retAddr 3] s = some (some (.int 1), s) := by
      refine le_J0_isLatin1_aae02 en (d + 1) s _ ?_
      rw [if_neg (by decide), if_neg (by decide)]
    rw [e1, bI_some, if_neg (by decide), hl, bI_some]
    have e2 : qev en (d + 2) 423 [.retAddr 6, .int (nI b), .int 0, .int 16] s = some (some (.int w), s) := by
      refine le_J1_indexOf_4cfef en (d + 1) (nI b) 0 16 s _ ?_
      have e3 : qev en (d + 1) 422 [.int (nI b)] s = some (some (.int 1), s) := by
        refine le_J1_canEncode_9a6ad en d (nI b) s _ ?_
        rw [if_neg (nI_pos (by omega)), if_neg (show ¬ (255 : Int32) < nI b from nI_nlt (a := 255) (by omega) (by decide))]
      have e4 : qev en (d + 1) 411 [.int 0, .int 0] s = some (some (.int 0), s) := le_J9_max_7cf53 en d 0 0 s _ (if_neg (by decide))
      have e5 : qev en (d + 1) 412 [.int 16, .int 16] s = some (some (.int 16), s) := le_J9_min_7cf53 en d 16 16 s _ (if_neg (by decide))
      rw [e3, bI_some, if_pos (by decide), e4, bI_some, e5, bI_some, if_pos (by decide)]
      rw [le_J1_indexOfChar_4cfef en d (nI b) 0 16 s _ h1, bI_some]
    rw [e2, bI_some]
  rw [h416, bI_some]
/-- a sign: its kind and where it ends -/
def gkd (b c : Nat) : Nat := if sgn b = true then (if two_ b = true ∧ c = 61 then b + 128 else b) else 1
def gnd (b c p : Nat) : Nat := if sgn b = true then (if two_ b = true ∧ c = 61 then p + 2 else p + 1) else p
theorem c16 {b : Nat} (h : b < 256) : ((nI b).toUInt32 % 65536).toInt32 = nI b := (show ∀ b, b < 256 → ((nI b).toUInt32 % 65536).toInt32 = nI b by decide +kernel) b h
theorem c_sign2 {en : pN} {d n p b : Nat} {B : Nat → Nat} {σ : qS} {q : Int32} (hT : TX σ n B) (h7 : σ.1 1 7 = nI p) (h : p ≤ 4000) (hq : q = 0 ∨ q = 1) : L_X9_cutSign_60 en (d + 1) (nI b) q σ = some (none, if q = 1 ∧ byt B n p = 61 then uI (uI σ 1 7 (nI (p + 1))) 1 9 (nI (b + 128)) else σ) := by
  refine le_X9_cutSign_60 en (d + 1) (nI b) q σ _ ?_
  rcases hq with rfl | rfl
  · rw [if_pos rfl, if_neg (by rintro ⟨z, -⟩; cases z)]
  · have hb : (bI_ (byt B n p) = 61) ↔ byt B n p = 61 := by
      unfold byt bI_
      by_cases hp : p < n
      · rw [if_pos hp, if_pos (hT.byte p hp)]
        exact nI_is (hT.byte p hp) (c := 61) (by decide)
      · rw [if_neg hp]; decide
    rw [if_neg (by decide), h7, c_byteAt hT (by omega), bI_some]
    by_cases h61 : byt B n p = 61
    · rw [if_neg (not_not_intro (hb.mpr h61)), nm_eq, nm_eq, h7, nI_1, if_pos ⟨rfl, h61⟩, show nI b + (128 : Int32) = nI (b + 128) from nI_add b 128]
    · rw [if_pos (fun z => h61 (hb.mp z)), if_neg (fun z => h61 z.2)]
/-- behind a token: where it ends, its kind -/
def kS (σ : qS) (q k : Nat) : qS := uI (uI σ 1 7 (nI q)) 1 9 (nI k)
theorem kS_kS {σ : qS} {q k q' k' : Nat} : kS (kS σ q k) q' k' = kS σ q' k' := by
  unfold kS
  rw [uI_sw (a := 1) (k := 9) (b := 1) (j := 7) (by decide), uI_uI, uI_uI]
theorem TX.kS {σ : qS} {n q k : Nat} {B : Nat → Nat} (h : TX σ n B) : TX (kS σ q k) n B := (h.uI (by decide)).uI (by decide)
theorem c_cutSign {en : pN} {d n p : Nat} {B : Nat → Nat} {σ : qS} (hT : TX σ n B) (h7 : σ.1 1 7 = nI p) (h : p < n) : qev en (d + 5) 175 [.ref 1, .int (nI (B p))] σ = some (none, kS σ (gnd (B p) (byt B n (p + 1)) p) (gkd (B p) (byt B n (p + 1)))) := by
  have hn := hT.le
  have hB := hT.byte p h
  refine le_X9_cutSign en (d + 4) (nI (B p)) σ _ ?_
  rw [c16 hB]
  obtain ⟨w, h1, h2⟩ := c_indexOf (en := en) (d := d) (s := σ) hB
  rw [h1, bI_some]
  by_cases hs : sgn (B p) = true
  · rw [if_pos (h2.mpr hs), nm_eq, nm_eq, h7, nI_1]
    have e : uI (uI σ 1 7 (nI (p + 1))) 1 9 (nI (B p)) = kS σ (p + 1) (B p) := rfl
    rw [e]
    have go : ∀ q : Int32, q = 0 ∨ q = 1 → (q = 1 ↔ two_ (B p) = true) → L_X9_cutSign_60 en (d + 4) (nI (B p)) q (kS σ (p + 1) (B p)) = some (none, kS σ (gnd (B p) (byt B n (p + 1)) p) (gkd (B p) (byt B n (p + 1)))) := by
      intro q hq h3
      rw [c_sign2 (d := d + 3) (hT.kS (q := p + 1) (k := B p)) rfl (by omega) hq]
      unfold gnd gkd
      rw [if_pos hs, if_pos hs]
      by_cases h4 : two_ (B p) = true ∧ byt B n (p + 1) = 61
      · rw [if_pos ⟨h3.mpr h4.1, h4.2⟩, if_pos h4, if_pos h4]
        exact congrArg (fun z => some (none, z)) kS_kS
      · rw [if_neg (fun z => h4 ⟨h3.mp z.1, z.2⟩), if_neg h4, if_neg h4]
    have ne : ∀ {c : Nat}, c < 256 → B p ≠ c → ¬ nI (B p) = nI c := fun hc z q => z ((nI_is hB hc).mp q)
    have tw : two_ (B p) = true ↔ B p = 61 ∨ B p = 33 ∨ B p = 60 ∨ B p = 62 := by
      unfold two_
      simp [List.contains_cons]
    by_cases z1 : B p = 61
    · rw [if_pos (show nI (B p) = (61 : Int32) by rw [z1]; rfl)]
      exact go 1 (Or.inr rfl) ⟨fun _ => tw.mpr (Or.inl z1), fun _ => rfl⟩
    · rw [if_neg (show ¬ nI (B p) = (61 : Int32) from ne (by decide) z1)]
      by_cases z2 : B p = 33
      · rw [if_pos (show nI (B p) = (33 : Int32) by rw [z2]; rfl)]
        exact go 1 (Or.inr rfl) ⟨fun _ => tw.mpr (Or.inr (Or.inl z2)), fun _ => rfl⟩
      · rw [if_neg (show ¬ nI (B p) = (33 : Int32) from ne (by decide) z2)]
        by_cases z3 : B p = 60
        · rw [if_pos (show nI (B p) = (60 : Int32) by rw [z3]; rfl)]
          exact go 1 (Or.inr rfl) ⟨fun _ => tw.mpr (Or.inr (Or.inr (Or.inl z3))), fun _ => rfl⟩
        · rw [if_neg (show ¬ nI (B p) = (60 : Int32) from ne (by decide) z3)]
          by_cases z4 : B p = 62
          · rw [if_neg (not_not_intro (show nI (B p) = (62 : Int32) by rw [z4]; rfl))]
            exact go 1 (Or.inr rfl) ⟨fun _ => tw.mpr (Or.inr (Or.inr (Or.inr z4))), fun _ => rfl⟩
          · rw [if_pos (show ¬ nI (B p) = (62 : Int32) from ne (by decide) z4)]
            exact go 0 (Or.inl rfl) ⟨fun q => absurd q (by decide), fun q => by rcases tw.mp q with q | q | q | q <;> omega⟩
  · rw [if_neg (fun z => hs (h2.mp z)), nm_eq]
    unfold gnd gkd
    rw [if_neg hs, if_neg hs]
    show some (none, uI σ 1 9 1) = some (none, uI (uI σ 1 7 (nI p)) 1 9 (nI 1))
    rw [uI_eq h7]
    rfl
/-! one token of the class: its kind, meaning, end -/
abbrev cTok : Type := Nat × Int64 × Nat
abbrev cTok.kind (t : cTok) : Nat := t.1
abbrev cTok.mean (t : cTok) : Int64 := t.2.1
abbrev cTok.stop (t : cTok) : Nat := t.2.2
/-- the token that begins at p: no blank stands there -/
def tokX (K : Nat → Int64) (B : Nat → Nat) (n p : Nat) : cTok :=
  if n ≤ p then ⟨0, 0, p⟩
  else if ltr (B p) = true then ⟨wkd K (wcd wch f7 B (n - p) p 0) (wnd wch B (n - p) p - p), wcd wch f7 B (n - p) p 0, wnd wch B (n - p) p⟩
  else if dgt (B p) = true then ⟨nkd (wnd dgt B (n - p) p - p), wcd dgt f10 B (n - p) p 0, wnd dgt B (n - p) p⟩
  else ⟨gkd (B p) (byt B n (p + 1)), 0, gnd (B p) (byt B n (p + 1)) p⟩
def tS (σ : qS) (t : cTok) : qS := uI (uI (uJ σ 1 11 t.mean) 1 7 (nI t.stop)) 1 9 (nI t.kind)
theorem c_cutOne {en : pN} {d n p : Nat} {B : Nat → Nat} {σ : qS} (hT : TX σ n B) (h7 : σ.1 1 7 = nI p) (h10 : σ.1 1 10 = nI p) (h11 : σ.2.1 1 11 = 0) (h : p ≤ n) : qev en (d + 6) 172 [.ref 1] σ = some (none, tS σ (tokX (σ.2.1 3) B n p)) := by
  have hn := hT.le
  have J0 : uJ σ 1 11 0 = σ := by
    have := wS_rf h7
    rw [h11] at this
    unfold wS at this
    refine Prod.ext rfl (Prod.ext (funext fun b => funext fun j => ?_) rfl)
    show (if b = 1 ∧ j = 11 then (0 : Int64) else σ.2.1 b j) = σ.2.1 b j
    by_cases q : b = 1 ∧ j = 11
    · rw [if_pos q, q.1, q.2, h11]
    · rw [if_neg q]
  refine le_X9_cutOne en (d + 5) σ _ ?_
  rw [h7, c_byteAt hT (by omega), bI_some]
  unfold tokX
  by_cases hp : p < n
  · have hB := hT.byte p hp
    rw [byt_lt hp, bI_lt hB, if_pos (show (0 : Int32) ≤ nI (B p) from nI_le (a := 0) (by omega) (by omega)), if_neg (show ¬ n ≤ p by omega), c_isLetter hB, bI_some]
    by_cases hl : ltr (B p) = true
    · rw [if_neg (fun q => absurd (tI0.mp q) (by rw [hl]; decide)), if_pos hl, c_cutWord (d := d + 3) hT h7 h10 h, bV_some, h11]
      rfl
    · have hl' : ltr (B p) = false := by revert hl; cases ltr (B p) <;> simp
      rw [if_pos (tI0.mpr hl'), if_neg hl, c_isDigit hB, bI_some]
      by_cases hd : dgt (B p) = true
      · rw [if_neg (fun q => absurd (tI0.mp q) (by rw [hd]; decide)), if_pos hd, c_cutNumber (d := d + 3) hT h7 h10 h, bV_some, h11]
        rfl
      · have hd' : dgt (B p) = false := by revert hd; cases dgt (B p) <;> simp
        rw [if_pos (tI0.mpr hd'), if_neg hd, c_cutSign (d := d) hT h7 hp, bV_some]
        show some (none, kS σ _ _) = some (none, uI (uI (uJ σ 1 11 0) 1 7 _) 1 9 _)
        rw [J0]
        rfl
  · unfold byt
    rw [if_neg hp, if_neg (by decide), nm_eq, if_pos (show n ≤ p by omega)]
    show some (none, uI σ 1 9 0) = some (none, uI (uI (uJ σ 1 11 0) 1 7 (nI p)) 1 9 (nI 0))
    rw [J0, uI_eq h7]
    rfl
/-! all tokens of the class -/
theorem tokX_stop {K : Nat → Int64} {B : Nat → Nat} {n p : Nat} (h : p ≤ n) : (tokX K B n p).stop ≤ n ∧ ((tokX K B n p).kind ≠ 0 → (tokX K B n p).kind ≠ 1 → p < (tokX K B n p).stop) := by
  unfold tokX
  by_cases h0 : n ≤ p
  · rw [if_pos h0]; exact ⟨h, fun q => absurd rfl q⟩
  · rw [if_neg h0]
    by_cases hl : ltr (B p) = true
    · rw [if_pos hl]
      have hw := wnd_ge (P := wch) (B := B) (n - p) p
      refine ⟨by show wnd wch B (n - p) p ≤ n; omega, fun _ _ => ?_⟩
      show p < wnd wch B (n - p) p
      obtain ⟨k, hk⟩ : ∃ k, n - p = k + 1 := ⟨n - p - 1, by omega⟩
      rw [hk]
      unfold wnd
      rw [if_pos (by unfold wch; rw [hl]; rfl)]
      have := wnd_ge (P := wch) (B := B) k (p + 1)
      omega
    · rw [if_neg hl]
      by_cases hd : dgt (B p) = true
      · rw [if_pos hd]
        have hw := wnd_ge (P := dgt) (B := B) (n - p) p
        refine ⟨by show wnd dgt B (n - p) p ≤ n; omega, fun _ _ => ?_⟩
        show p < wnd dgt B (n - p) p
        obtain ⟨k, hk⟩ : ∃ k, n - p = k + 1 := ⟨n - p - 1, by omega⟩
        rw [hk]
        unfold wnd
        rw [if_pos hd]
        have := wnd_ge (P := dgt) (B := B) k (p + 1)
        omega
      · rw [if_neg hd]
        show gnd (B p) (byt B n (p + 1)) p ≤ n ∧ (gkd (B p) (byt B n (p + 1)) ≠ 0 → gkd (B p) (byt B n (p + 1)) ≠ 1 → p < gnd (B p) (byt B n (p + 1)) p)
        unfold gnd gkd
        by_cases hs : sgn (B p) = true
        · rw [if_pos hs, if_pos hs]
          by_cases h4 : two_ (B p) = true ∧ byt B n (p + 1) = 61
          · rw [if_pos h4, if_pos h4]
            have : p + 1 < n := by
              rcases Nat.lt_or_ge (p + 1) n with z | z
              · exact z
              · have h5 := h4.2
                unfold byt at h5
                rw [if_neg (by omega)] at h5
                omega
            omega
          · rw [if_neg h4, if_neg h4]
            omega
        · rw [if_neg hs, if_neg hs]
          exact ⟨h, fun _ q => absurd rfl q⟩
/-- the row of tokens from a place on, each with where it begins; f more at most -/
def cutL (K : Nat → Int64) (B : Nat → Nat) (n : Nat) : Nat → Nat → List (Nat × cTok)
  | 0, _ => []
  | f + 1, q => (skp B (n - q) false q, tokX K B n (skp B (n - q) false q)) :: (if (tokX K B n (skp B (n - q) false q)).kind = 0 ∨ (tokX K B n (skp B (n - q) false q)).kind = 1 then [] else cutL K B n f (tokX K B n (skp B (n - q) false q)).stop)
/-- tokens stand in the arrays from place j on -/
def tRows (σ : qS) (j : Nat) (l : List (Nat × cTok)) : Prop := ∀ i : Nat, ∀ t : Nat × cTok, l[i]? = some t → σ.1 4 (j + i) = nI t.2.kind ∧ σ.1 5 (j + i) = nI t.1 ∧ σ.2.1 6 (j + i) = t.2.mean
/-- the state behind one more token -/
def stT (σ : qS) (j p : Nat) (t : cTok) : qS := uI (uJ (uI (uI (tS (uJ (uI (uI σ 1 7 (nI p)) 1 10 (nI p)) 1 11 0) t) 4 j (nI t.kind)) 5 j (nI p)) 6 j t.mean) 1 6 (nI (j + 1))
theorem TX.stT {σ : qS} {n j p : Nat} {B : Nat → Nat} {t : cTok} (h : TX σ n B) : TX (stT σ j p t) n B := by
  refine ⟨h.len, h.le, h.byte, fun i hi => ?_⟩
  have := h.text i hi
  exact this
theorem ct_step {en : pN} {d n j q : Nat} {B : Nat → Nat} {σ : qS} (hT : TX σ n B) (h6 : σ.1 1 6 = nI j) (h7 : σ.1 1 7 = nI q) (h9 : ¬ σ.1 1 9 = 0 ∧ ¬ σ.1 1 9 = 1) (hj : j ≤ q) (hq : q ≤ n) : qle (L_X9_cut_17 en (d + 6) (nI (j + 1)) (stT σ j (skp B (n - q) false q) (tokX (σ.2.1 3) B n (skp B (n - q) false q)))) (L_X9_cut_17 en (d + 6) (nI j) σ) := by
  intro r hr
  have hn := hT.le
  have hs := skp_ge (B := B) (n - q) false q
  refine le_X9_cut_17 en (d + 6) (nI j) σ r ?_
  rw [if_neg (show ¬ (4000 : Int32) < nI j from nI_nlt (a := 4000) (by omega) (by decide)), if_neg h9.1, if_neg h9.2, c_skipBlanks hT h7 hq, bV_some]
  generalize skp B (n - q) false q = p at hs hr ⊢
  simp only [nm_eq]
  have e1 : (uI σ 1 7 (nI p)).1 1 7 = nI p := rfl
  rw [e1, c_cutOne (d := d) (n := n) (p := p) (B := B) (σ := uJ (uI (uI σ 1 7 (nI p)) 1 10 (nI p)) 1 11 0) (((hT.uI (by decide)).uI (by decide)).uJ) rfl rfl rfl (by omega), bV_some]
  have e2 : (uJ (uI (uI σ 1 7 (nI p)) 1 10 (nI p)) 1 11 0).2.1 3 = σ.2.1 3 := rfl
  rw [e2]
  generalize tokX (σ.2.1 3) B n p = t at hr ⊢
  have f6 : (tS (uJ (uI (uI σ 1 7 (nI p)) 1 10 (nI p)) 1 11 0) t).1 1 6 = nI j := h6
  have f6a : (uI (tS (uJ (uI (uI σ 1 7 (nI p)) 1 10 (nI p)) 1 11 0) t) 4 j (nI t.kind)).1 1 6 = nI j := h6
  have f6b : (uI (uI (tS (uJ (uI (uI σ 1 7 (nI p)) 1 10 (nI p)) 1 11 0) t) 4 j (nI t.kind)) 5 j (nI p)).1 1 6 = nI j := h6
  have f6c : (uJ (uI (uI (tS (uJ (uI (uI σ 1 7 (nI p)) 1 10 (nI p)) 1 11 0) t) 4 j (nI t.kind)) 5 j (nI p)) 6 j t.mean).1 1 6 = nI j := h6
  have f9 : (tS (uJ (uI (uI σ 1 7 (nI p)) 1 10 (nI p)) 1 11 0) t).1 1 9 = nI t.kind := rfl
  have f10 : (uI (tS (uJ (uI (uI σ 1 7 (nI p)) 1 10 (nI p)) 1 11 0) t) 4 j (nI t.kind)).1 1 10 = nI p := rfl
  have f11 : (uI (uI (tS (uJ (uI (uI σ 1 7 (nI p)) 1 10 (nI p)) 1 11 0) t) 4 j (nI t.kind)) 5 j (nI p)).2.1 1 11 = t.mean := rfl
  rw [f6, gd_true (inB_nI (by omega) (by decide)), f9, nI_clamp (by omega), f6a, gd_true (inB_nI (by omega) (by decide)), f10, nI_clamp (by omega), f6b, gd_true (inB_nI (by omega) (by decide)), f11, nI_clamp (by omega), f6c, nI_1]
  exact hr
theorem stT_lo {σ : qS} {j p i : Nat} {t : cTok} (h : i < j) : (stT σ j p t).1 4 i = σ.1 4 i ∧ (stT σ j p t).1 5 i = σ.1 5 i ∧ (stT σ j p t).2.1 6 i = σ.2.1 6 i := by
  refine ⟨?_, ?_, ?_⟩
  · show (if 4 = 4 ∧ i = j then nI t.kind else σ.1 4 i) = σ.1 4 i
    rw [if_neg (by omega)]
  · show (if 5 = 5 ∧ i = j then nI p else σ.1 5 i) = σ.1 5 i
    rw [if_neg (by omega)]
  · show (if 6 = 6 ∧ i = j then t.mean else σ.2.1 6 i) = σ.2.1 6 i
    rw [if_neg (by omega)]
theorem stT_at {σ : qS} {j p : Nat} {t : cTok} : (stT σ j p t).1 4 j = nI t.kind ∧ (stT σ j p t).1 5 j = nI p ∧ (stT σ j p t).2.1 6 j = t.mean := by
  refine ⟨?_, ?_, ?_⟩
  · show (if 4 = 4 ∧ j = j then nI t.kind else σ.1 4 j) = _
    rw [if_pos ⟨rfl, rfl⟩]
  · show (if 5 = 5 ∧ j = j then nI p else σ.1 5 j) = _
    rw [if_pos ⟨rfl, rfl⟩]
  · show (if 6 = 6 ∧ j = j then t.mean else σ.2.1 6 j) = _
    rw [if_pos ⟨rfl, rfl⟩]
/-- the loop: all tokens up to the first that is the end or none -/
theorem ct_all {en : pN} {d n : Nat} {B : Nat → Nat} : ∀ (f j q : Nat) (σ : qS), TX σ n B → σ.1 1 6 = nI j → σ.1 1 7 = nI q → (¬ σ.1 1 9 = 0 ∧ ¬ σ.1 1 9 = 1) → j ≤ q → q ≤ n → n - q < f →
    ∃ τ : qS, qle (L_X9_cut_115 en (d + 6) τ) (L_X9_cut_17 en (d + 6) (nI j) σ) ∧ TX τ n B ∧ τ.1 1 6 = nI (j + (cutL (σ.2.1 3) B n f q).length) ∧ tRows τ j (cutL (σ.2.1 3) B n f q) ∧ (∀ i : Nat, i < j → τ.1 4 i = σ.1 4 i ∧ τ.1 5 i = σ.1 5 i ∧ τ.2.1 6 i = σ.2.1 6 i) ∧ (j + (cutL (σ.2.1 3) B n f q).length ≤ n + 1 ∧ 0 < (cutL (σ.2.1 3) B n f q).length) ∧ τ.2.1 3 = σ.2.1 3 := by
  intro f
  induction f with
  | zero => intro j q σ _ _ _ _ _ _ h; omega
  | succ f ih =>
    intro j q σ hT h6 h7 h9 hj hq hf
    have hn := hT.le
    have hstep := ct_step (en := en) (d := d) hT h6 h7 h9 hj hq
    have hs := skp_ge (B := B) (n - q) false q
    unfold cutL
    generalize hp : skp B (n - q) false q = p at hstep hs ⊢
    have hk := tokX_stop (K := σ.2.1 3) (B := B) (n := n) (p := p) (by omega)
    generalize ht : tokX (σ.2.1 3) B n p = t at hstep hk ⊢
    have k9 : (stT σ j p t).1 1 9 = nI t.kind := rfl
    by_cases hz : t.kind = 0 ∨ t.kind = 1
    · rw [if_pos hz]
      refine ⟨stT σ j p t, fun r hr => hstep r (le_X9_cut_17 en (d + 6) (nI (j + 1)) (stT σ j p t) r ?_), hT.stT, rfl, ?_, fun i hi => stT_lo hi, ⟨by show j + 1 ≤ n + 1; omega, Nat.zero_lt_one⟩, rfl⟩
      · rw [k9]
        by_cases hb : (4000 : Int32) < nI (j + 1)
        · rw [if_pos hb]; exact hr
        · rw [if_neg hb]
          rcases hz with z | z
          · rw [z, if_pos (show nI 0 = (0 : Int32) from rfl)]; exact hr
          · rw [z, if_neg (show ¬ nI 1 = (0 : Int32) by decide), if_pos (show nI 1 = (1 : Int32) from rfl)]; exact hr
      · intro i t' hi
        cases i with
        | zero => cases hi; exact stT_at
        | succ i => cases hi
    · rw [if_neg hz]
      have hz0 : t.kind ≠ 0 := fun q => hz (Or.inl q)
      have hz1 : t.kind ≠ 1 := fun q => hz (Or.inr q)
      have hlt := hk.2 hz0 hz1
      have hkb : t.kind < 2 ^ 31 := by
        rw [← ht]
        unfold tokX
        split
        · exact (by decide : 0 < 2 ^ 31)
        · split
          · show wkd _ _ _ < 2 ^ 31
            unfold wkd
            split
            · have : ∀ (K : Nat → Int64) (m : Int64) (k i : Nat), i + k ≤ 33 → kwd K m k i < 2 ^ 31 := by
                intro K m k
                induction k with
                | zero => intro i _; exact (by decide : 2 < 2 ^ 31)
                | succ k ih =>
                  intro i hi
                  unfold kwd
                  split
                  · omega
                  · exact ih (i + 1) (by omega)
              exact this _ _ _ _ (by decide)
            · decide
          · split
            · show nkd _ < 2 ^ 31
              unfold nkd
              split <;> decide
            · show gkd _ _ < 2 ^ 31
              unfold gkd
              have := hT.byte p (by
                rcases Nat.lt_or_ge p n with z | z
                · exact z
                · rename_i h1 _ _
                  exact absurd z h1)
              split
              · split <;> omega
              · decide
      obtain ⟨τ, r1, r2, r3, r4, r5, r6, r7⟩ := ih (j + 1) t.stop (stT σ j p t) hT.stT rfl rfl ⟨fun z => hz0 ((nI_eq hkb (by decide)).mp (k9.symm.trans z)), fun z => hz1 ((nI_eq hkb (by decide)).mp (k9.symm.trans z))⟩ (by omega) hk.1 (by omega)
      have e3 : (stT σ j p t).2.1 3 = σ.2.1 3 := rfl
      rw [e3] at r3 r4 r6 r7
      refine ⟨τ, fun r hr => hstep r (r1 r hr), r2, ?_, ?_, fun i hi => ?_, ?_, r7⟩
      · rw [r3, List.length_cons]
        congr 1
        omega
      · intro i t' hi
        cases i with
        | zero =>
          cases hi
          have a := r5 j (by omega)
          have b := stT_at (σ := σ) (j := j) (p := p) (t := t)
          exact ⟨a.1.trans b.1, a.2.1.trans b.2.1, a.2.2.trans b.2.2⟩
        | succ i =>
          have a := r4 i t' hi
          rw [show j + 1 + i = j + (i + 1) by omega] at a
          exact a
      · have a := r5 i (by omega)
        have b := stT_lo (σ := σ) (p := p) (t := t) hi
        exact ⟨a.1.trans b.1, a.2.1.trans b.2.1, a.2.2.trans b.2.2⟩
      · rw [List.length_cons]
        omega
/-- the class's tokens: how many, what they are -/
abbrev TC (σ : qS) (ts : List (Nat × cTok)) : Prop := σ.1 1 6 = nI ts.length ∧ tRows σ 0 ts ∧ ts.length ≤ 4001 ∧ 0 < ts.length
theorem TC.cnt {σ : qS} {ts : List (Nat × cTok)} (h : TC σ ts) : σ.1 1 6 = nI ts.length := h.1
theorem TC.rows {σ : qS} {ts : List (Nat × cTok)} (h : TC σ ts) : tRows σ 0 ts := h.2.1
theorem TC.le {σ : qS} {ts : List (Nat × cTok)} (h : TC σ ts) : ts.length ≤ 4001 := h.2.2.1
theorem TC.pos {σ : qS} {ts : List (Nat × cTok)} (h : TC σ ts) : 0 < ts.length := h.2.2.2
theorem cutL_cons {K : Nat → Int64} {B : Nat → Nat} {n q f : Nat} (h : n - q < f) : 0 < (cutL K B n f q).length := by
  cases f with
  | zero => omega
  | succ f => unfold cutL; exact Nat.succ_pos _
/-- the token i is the one that is looked at -/
abbrev TA (σ : qS) (ts : List (Nat × cTok)) (i : Nat) : Prop := ∃ h : i < ts.length, σ.1 1 8 = nI i ∧ σ.1 1 9 = nI ts[i].2.kind ∧ σ.1 1 10 = nI ts[i].1 ∧ σ.2.1 1 11 = ts[i].2.mean
/-- the next token, or the last one -/
def tnx (ts : List (Nat × cTok)) (i : Nat) : Nat := if i + 1 < ts.length then i + 1 else i
def aS (σ : qS) (j : Nat) (t : Nat × cTok) : qS := uJ (uI (uI (uI σ 1 8 (nI j)) 1 9 (nI t.2.kind)) 1 10 (nI t.1)) 1 11 t.2.mean
theorem c_adv {en : pN} {d j : Nat} {σ : qS} {ts : List (Nat × cTok)} (hC : TC σ ts) (hj : j < ts.length) (h8 : σ.1 1 8 = nI j) : L_X9_advance_23 en d σ = some (none, aS σ j ts[j]) := by
  have hl := hC.le
  obtain ⟨r1, r2, r3⟩ := hC.rows j ts[j] (List.getElem?_eq_getElem hj)
  rw [Nat.zero_add] at r1 r2 r3
  refine le_X9_advance_23 en d σ _ ?_
  simp only [nm_eq]
  rw [h8, gd_true (inB_nI (by omega) (by decide)), nI_clamp (by omega), r1]
  have e2 : (uI σ 1 9 (nI ts[j].2.kind)).1 1 8 = nI j := h8
  have e3 : (uI σ 1 9 (nI ts[j].2.kind)).1 5 j = nI ts[j].1 := r2
  rw [e2, gd_true (inB_nI (by omega) (by decide)), nI_clamp (by omega), e3]
  have e4 : (uI (uI σ 1 9 (nI ts[j].2.kind)) 1 10 (nI ts[j].1)).1 1 8 = nI j := h8
  have e5 : (uI (uI σ 1 9 (nI ts[j].2.kind)) 1 10 (nI ts[j].1)).2.1 6 j = ts[j].2.mean := r3
  rw [e4, gd_true (inB_nI (by omega) (by decide)), nI_clamp (by omega), e5]
  unfold aS
  rw [uI_eq h8]
theorem c_advance {en : pN} {d i : Nat} {σ : qS} {ts : List (Nat × cTok)} (hC : TC σ ts) (hi : i < ts.length) (h8 : σ.1 1 8 = nI i) : qev en (d + 1) 167 [.ref 1] σ = some (none, aS σ (tnx ts i) (ts[tnx ts i]'(by unfold tnx; split <;> omega))) := by
  have hl := hC.le
  refine le_X9_advance en d σ _ ?_
  rw [hC.cnt, h8, show nI ts.length - (1 : Int32) = nI (ts.length - 1) from nI_sub (b := 1) (by omega)]
  by_cases h : i + 1 < ts.length
  · have e : tnx ts i = i + 1 := if_pos h
    rw [if_neg (show ¬ nI (ts.length - 1) ≤ nI i from nI_ge (by omega) (by omega)), nm_eq, nI_1]
    have hC' : TC (uI σ 1 8 (nI (i + 1))) ts := ⟨hC.cnt, hC.rows, hC.le, hC.pos⟩
    rw [c_adv hC' h rfl]
    simp only [e]
    unfold aS
    rw [uI_uI]
  · have e : tnx ts i = i := if_neg h
    rw [if_pos (show nI (ts.length - 1) ≤ nI i from nI_le (by omega) (by omega)), c_adv hC hi h8]
    simp only [e]
theorem TC.aS {σ : qS} {ts : List (Nat × cTok)} {j : Nat} {t : Nat × cTok} (h : TC σ ts) : TC (aS σ j t) ts := ⟨h.cnt, h.rows, h.le, h.pos⟩
theorem TA.aS {σ : qS} {ts : List (Nat × cTok)} {j : Nat} (h : j < ts.length) : TA (aS σ j ts[j]) ts j := ⟨h, rfl, rfl, rfl, rfl⟩
theorem TX.aS {σ : qS} {n j : Nat} {B : Nat → Nat} {t : Nat × cTok} (h : TX σ n B) : TX (aS σ j t) n B := ⟨h.len, h.le, h.byte, h.text⟩
theorem c_cut {en : pN} {d n : Nat} {B : Nat → Nat} {σ : qS} (hT : TX σ n B) : ∃ τ : qS, qev en (d + 7) 166 [.ref 1] σ = some (none, τ) ∧ TX τ n B ∧ TC τ (cutL (σ.2.1 3) B n (n + 1) 0) ∧ TA τ (cutL (σ.2.1 3) B n (n + 1) 0) 0 ∧ τ.2.1 3 = σ.2.1 3 := by
  have hn := hT.le
  obtain ⟨τ, r1, r2, r3, r4, r5, r6, r7⟩ := ct_all (en := en) (d := d) (n + 1) 0 0 (uI (uI (uI σ 1 6 0) 1 7 0) 1 9 2) (((hT.uI (by decide)).uI (by decide)).uI (by decide)) rfl rfl ⟨by show ¬ (2 : Int32) = 0; decide, by show ¬ (2 : Int32) = 1; decide⟩ (Nat.le_refl _) (Nat.zero_le _) (by omega)
  have e3 : (uI (uI (uI σ 1 6 0) 1 7 0) 1 9 2).2.1 3 = σ.2.1 3 := rfl
  rw [e3] at r3 r4 r6 r7
  generalize cutL (σ.2.1 3) B n (n + 1) 0 = ts at r3 r4 r6 ⊢
  rw [Nat.zero_add] at r3 r6
  have hC : TC (uI τ 1 8 (-1)) ts := ⟨r3, r4, by omega, r6.2⟩
  refine ⟨aS (uI τ 1 8 (-1)) 0 (ts[0]'r6.2), le_X9_cut en (d + 6) σ _ ?_, (r2.uI (by decide)).aS, hC.aS, TA.aS r6.2, r7⟩
  rw [nm_eq, nm_eq, nm_eq]
  refine r1 _ (le_X9_cut_115 en (d + 6) τ _ ?_)
  rw [nm_eq]
  have h1 : qev en (d + 6) 167 [.ref 1] (uI τ 1 8 (-1)) = some (none, aS (uI τ 1 8 (-1)) 0 (ts[0]'r6.2)) := by
    refine le_X9_advance en (d + 5) _ _ ?_
    rw [show (uI τ 1 8 (-1)).1 1 6 = nI ts.length from r3, show (uI τ 1 8 (-1)).1 1 8 = (-1 : Int32) from rfl, show nI ts.length - (1 : Int32) = nI (ts.length - 1) from nI_sub (b := 1) (by omega)]
    rw [if_neg (show ¬ nI (ts.length - 1) ≤ (-1 : Int32) from fun z => by
      have := Int32.le_iff_toInt_le.mp z
      rw [nI_toInt (by omega)] at this
      have e : (-1 : Int32).toInt = -1 := by decide
      omega), nm_eq]
    have hC' : TC (uI (uI τ 1 8 (-1)) 1 8 ((-1 : Int32) + 1)) ts := ⟨hC.cnt, hC.rows, hC.le, hC.pos⟩
    rw [c_adv hC' r6.2 rfl]
    unfold aS
    rw [uI_uI]
  rw [h1, bV_some]

