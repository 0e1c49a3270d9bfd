/-! CHANCES: orders of threads, runs by them, sums. -/
def insA (L : List Nat) (r t : Nat) : List Nat := L.take r ++ t :: L.drop r
/-- the class's order with a number -/
def arrG : Nat → Nat → Nat → List Nat → List Nat
  | 0, _, _, L => L
  | m + 1, t, rest, L => arrG m (t + 1) (rest / (t + 1)) (insA L (rest % (t + 1)) t)
def arrL (nt code : Nat) : List Nat := arrG nt 0 code []
/-- the model's place that is left -/
def plcF (u : Nat) : Nat → Nat → Nat → Option Nat
  | 0, _, _ => none
  | f + 1, wh, q => if u.testBit q = true then plcF u f wh (q + 1) else if wh = 0 then some q else plcF u f (wh - 1) (q + 1)
def ordG (nt : Nat) : Nat → Nat → Nat → Nat → List Nat → Option (List Nat)
  | 0, _, _, _, pr => some pr
  | m + 1, t, left, u, pr => match plcF u 9 (left % (nt - t)) 0 with
    | none => none
    | some q => ordG nt m (t + 1) (left / (nt - t)) (u ||| 2 ^ q) (pr ++ [q])
def ordP (nt o : Nat) : Option (List Nat) := ordG nt nt 0 o 0 []
/-- threads by their priorities, the greatest first -/
def byP (nt : Nat) (pr : List Nat) : List Nat := (List.range nt).reverse.map (fun q => pr.idxOf q)
def ordL (nt o : Nat) : List Nat := match ordP nt o with
  | some pr => byP nt pr
  | none => []
def facN : Nat → Nat
  | 0 => 1
  | n + 1 => (n + 1) * facN n
/-- an order of all threads -/
abbrev PL (nt : Nat) (L : Nat → Nat) : Prop := (∀ i, i < nt → L i < nt) ∧ (∀ i, i < nt → ∀ j, j < nt → L i = L j → i = j) ∧ ∀ t, t < nt → ∃ i, i < nt ∧ L i = t
abbrev gtL (L : List Nat) : Nat → Nat := fun i => L.getD i 0
def okO (nt o : Nat) : Bool := match ordP nt o with
  | some pr => pr.length == nt && (List.range nt).all (fun t => decide (pr.getD t 0 < 4)) && (List.range nt).all (fun j => (List.range j).all (fun i => decide (pr.getD ((ordL nt o).getD j 0) 0 < pr.getD ((ordL nt o).getD i 0) 0)))
  | none => false
theorem okO_all : ∀ nt, nt < 5 → ∀ o, o < facN nt → okO nt o = true := by decide +kernel
def okPL (nt : Nat) (L : List Nat) : Bool := L.length == nt && (List.range nt).all (fun i => decide (L.getD i 0 < nt)) && (List.range nt).all (fun i => (List.range nt).all (fun j => decide (L.getD i 0 = L.getD j 0 → i = j))) && (List.range nt).all (fun t => (List.range nt).any (fun i => L.getD i 0 == t))
theorem arr_ok : ∀ nt, nt < 5 → ∀ o, o < facN nt → okPL nt (arrL nt o) = true := by decide +kernel
theorem ord_ok : ∀ nt, nt < 5 → ∀ o, o < facN nt → okPL nt (ordL nt o) = true := by decide +kernel
theorem prm_ok : ∀ nt, nt < 5 → (((List.range (facN nt)).map (arrL nt)).isPerm ((List.range (facN nt)).map (ordL nt))) = true := by decide +kernel
section CHP
variable {nt o c n k r : Nat} {f g h : Nat → Nat} {L : List Nat}
theorem okPL_PL (hk : okPL nt L = true) : L.length = nt ∧ PL nt (gtL L) := by
  unfold okPL at hk
  rw [Bool.and_eq_true, Bool.and_eq_true, Bool.and_eq_true] at hk
  obtain ⟨⟨⟨h1, h2⟩, h3⟩, h4⟩ := hk
  rw [List.all_eq_true] at h2 h3 h4
  refine ⟨eq_of_beq h1, fun i hi => of_decide_eq_true (h2 i (List.mem_range.mpr hi)), fun i hi j hj e => ?_, fun t ht => ?_⟩
  · have := h3 i (List.mem_range.mpr hi)
    rw [List.all_eq_true] at this
    exact of_decide_eq_true (this j (List.mem_range.mpr hj)) e
  · have := h4 t (List.mem_range.mpr ht)
    rw [List.any_eq_true] at this
    obtain ⟨i, hi, e⟩ := this
    exact ⟨i, List.mem_range.mp hi, eq_of_beq e⟩
/-- sums -/
def smN (f : Nat → Nat) : Nat → Nat
  | 0 => 0
  | n + 1 => smN f n + f n
theorem smN_list : ∀ n, smN f n = ((List.range n).map f).sum := by
  intro n
  induction n with
  | zero => rfl
  | succ n ih =>
    show smN f n + f n = _
    rw [List.range_succ, List.map_append, List.sum_append, ih]
    show _ = _ + ([f n]).sum
    rw [show ([f n]).sum = f n from Nat.add_zero _]
theorem smN_cg (h : ∀ i, i < n → f i = g i) : smN f n = smN g n := by
  induction n with
  | zero => rfl
  | succ n ih =>
    show smN f n + f n = smN g n + g n
    rw [ih (fun i hi => h i (by omega)), h n (by omega)]
theorem smN_add : smN (fun i => f i + g i) n = smN f n + smN g n := by
  induction n with
  | zero => rfl
  | succ n ih =>
    show smN (fun i => f i + g i) n + (f n + g n) = smN f n + f n + (smN g n + g n)
    rw [ih]; omega
theorem perm_sum {l l' : List Nat} (h : l.Perm l') : l.sum = l'.sum := by
  induction h with
  | nil => rfl
  | cons x _ ih => rw [List.sum_cons, List.sum_cons, ih]
  | swap x y l => rw [List.sum_cons, List.sum_cons, List.sum_cons, List.sum_cons]; omega
  | trans _ _ h1 h2 => rw [h1, h2]
/-- both sides' orders are all orders -/
theorem sm_orders {q : List Nat → Nat} (hnt : nt < 5) : smN (fun o => q (arrL nt o)) (facN nt) = smN (fun o => q (ordL nt o)) (facN nt) := by
  have h := List.isPerm_iff.mp (prm_ok nt hnt)
  have h2 := perm_sum (h.map q)
  rw [List.map_map, List.map_map] at h2
  rw [smN_list, smN_list]
  exact h2
/-- the square of both numbers, row by row -/
theorem sm_rows {F : Nat → Nat → Nat} (hk : 0 < k) : ∀ b, smN (fun r => F (r % k) (r / k)) (b * k) = smN (fun j => smN (fun i => F i j) k) b := by
  intro b
  induction b with
  | zero => rw [Nat.zero_mul]; rfl
  | succ b ih =>
    show _ = smN (fun j => smN (fun i => F i j) k) b + smN (fun i => F i b) k
    rw [← ih, Nat.succ_mul]
    have : ∀ c, c ≤ k → smN (fun r => F (r % k) (r / k)) (b * k + c) = smN (fun r => F (r % k) (r / k)) (b * k) + smN (fun i => F i b) c := by
      intro c
      induction c with
      | zero => intro _; rfl
      | succ c ihc =>
        intro hc
        show smN (fun r => F (r % k) (r / k)) (b * k + c) + F ((b * k + c) % k) ((b * k + c) / k) = _ + (smN (fun i => F i b) c + F c b)
        rw [ihc (by omega), Nat.mul_comm b k, Nat.mul_add_mod, Nat.mod_eq_of_lt (by omega), Nat.mul_add_div hk, Nat.div_eq_of_lt (by omega), Nat.add_zero]
        omega
    exact this k (Nat.le_refl _)
/-- the square of an even table by its half -/
theorem sm_half {F : Nat → Nat → Nat} (hF : ∀ i j, F i j = F j i) : ∀ k, smN (fun j => smN (fun i => F i j) k) k = smN (fun i => smN (fun j => (if j = 0 then 1 else 2) * F i (i + j)) (k - i)) k := by
  intro k
  induction k with
  | zero => rfl
  | succ k ih =>
    show smN (fun j => smN (fun i => F i j) k + F k j) k + (smN (fun i => F i k) k + F k k) = smN (fun i => smN (fun j => (if j = 0 then 1 else 2) * F i (i + j)) (k + 1 - i)) k + smN (fun j => (if j = 0 then 1 else 2) * F k (k + j)) (k + 1 - k)
    have e1 : smN (fun i => smN (fun j => (if j = 0 then 1 else 2) * F i (i + j)) (k + 1 - i)) k = smN (fun i => smN (fun j => (if j = 0 then 1 else 2) * F i (i + j)) (k - i) + (F i k + F k i)) k := smN_cg fun i hi => by
      rw [show k + 1 - i = (k - i) + 1 by omega]
      show smN _ (k - i) + (if k - i = 0 then 1 else 2) * F i (i + (k - i)) = _
      rw [if_neg (by omega), show i + (k - i) = k by omega, hF k i]
      omega
    rw [e1, smN_add, smN_add, ih, smN_add, show k + 1 - k = 1 by omega]
    show _ + smN (fun j => F k j) k + (smN (fun i => F i k) k + F k k) = _ + (smN (fun i => F i k) k + smN (fun i => F k i) k) + (0 + (if (0 : Nat) = 0 then 1 else 2) * F k (k + 0))
    rw [if_pos rfl, Nat.add_zero]
    omega
/-- one thread goes behind all others -/
def lowF (nt r : Nat) (L : Nat → Nat) : Nat → Nat := fun i => if i < r then L i else if i + 1 < nt then L (i + 1) else L r
theorem PL_low {L : Nat → Nat} (h : PL nt L) (hr : r < nt) : PL nt (lowF nt r L) := by
  obtain ⟨h1, h2, h3⟩ := h
  refine ⟨fun i hi => ?_, fun i hi j hj e => ?_, fun t ht => ?_⟩
  · unfold lowF
    split
    · exact h1 i hi
    · split
      · exact h1 _ (by omega)
      · exact h1 r hr
  · unfold lowF at e
    have key : ∀ a b, a < nt → b < nt → L a = L b → a = b := fun a b ha hb => h2 a ha b hb
    by_cases a1 : i < r
    · rw [if_pos a1] at e
      by_cases b1 : j < r
      · rw [if_pos b1] at e; exact key _ _ hi hj e
      · rw [if_neg b1] at e
        by_cases b2 : j + 1 < nt
        · rw [if_pos b2] at e; have := key _ _ hi b2 e; omega
        · rw [if_neg b2] at e; have := key _ _ hi hr e; omega
    · rw [if_neg a1] at e
      by_cases a2 : i + 1 < nt
      · rw [if_pos a2] at e
        by_cases b1 : j < r
        · rw [if_pos b1] at e; have := key _ _ a2 hj e; omega
        · rw [if_neg b1] at e
          by_cases b2 : j + 1 < nt
          · rw [if_pos b2] at e; have := key _ _ a2 b2 e; omega
          · rw [if_neg b2] at e; have := key _ _ a2 hr e; omega
      · rw [if_neg a2] at e
        by_cases b1 : j < r
        · rw [if_pos b1] at e; have := key _ _ hr hj e; omega
        · rw [if_neg b1] at e
          by_cases b2 : j + 1 < nt
          · rw [if_pos b2] at e; have := key _ _ hr b2 e; omega
          · omega
  · obtain ⟨i, hi, e⟩ := h3 t ht
    unfold lowF
    by_cases q : i < r
    · exact ⟨i, hi, by rw [if_pos q]; exact e⟩
    by_cases q2 : i = r
    · exact ⟨nt - 1, by omega, by rw [if_neg (by omega), if_neg (by omega), ← q2]; exact e⟩
    · exact ⟨i - 1, by omega, by rw [if_neg (by omega), if_pos (by omega), show i - 1 + 1 = i by omega]; exact e⟩
/-- the first of the order that can go -/
def pkF (c : Nat → Nat) (L : Nat → Nat) : Nat → Nat → Option Nat
  | 0, _ => none
  | m + 1, i => if 0 < c (L i) then some i else pkF c L m (i + 1)
theorem pkF_some {c : Nat → Nat} {L : Nat → Nat} : ∀ m i, pkF c L m i = some r → i ≤ r ∧ r < i + m ∧ 0 < c (L r) ∧ ∀ j, i ≤ j → j < r → c (L j) = 0 := by
  intro m
  induction m with
  | zero => intro i h; cases h
  | succ m ih =>
    intro i h
    have e : pkF c L (m + 1) i = if 0 < c (L i) then some i else pkF c L m (i + 1) := rfl
    rw [e] at h
    by_cases q : 0 < c (L i)
    · rw [if_pos q] at h
      cases h
      exact ⟨Nat.le_refl _, by omega, q, fun j a b => by omega⟩
    · rw [if_neg q] at h
      obtain ⟨a, b, x, y⟩ := ih (i + 1) h
      refine ⟨by omega, by omega, x, fun j h1 h2 => ?_⟩
      by_cases z : j = i
      · rw [z]; omega
      · exact y j (by omega) h2
theorem pkF_none {c : Nat → Nat} {L : Nat → Nat} : ∀ m i, pkF c L m i = none → ∀ j, i ≤ j → j < i + m → c (L j) = 0 := by
  intro m
  induction m with
  | zero => intro i _ j a b; omega
  | succ m ih =>
    intro i h j a b
    have e : pkF c L (m + 1) i = if 0 < c (L i) then some i else pkF c L m (i + 1) := rfl
    rw [e] at h
    by_cases q : 0 < c (L i)
    · rw [if_pos q] at h; cases h
    · rw [if_neg q] at h
      by_cases z : j = i
      · rw [z]; omega
      · exact ih (i + 1) h j (by omega) (by omega)
/-- a run by an order and two numbers -/
def rnF (P : Nat → fI) (nt one oth : Nat) : Nat → Nat → (Nat → Nat) → fI → Option fI
  | 0, _, _, _ => none
  | u + 1, k, L, N => match pkF (fun t => chs P 0 N t nt) L nt 0 with
    | none => some N
    | some r => rnF P nt one oth u (k + 1) (if k + 1 = one ∨ k + 1 = oth then lowF nt r L else L) (stp P 0 N (L r) 0 nt)
theorem rnF_sw {P : Nat → fI} {a b : Nat} : ∀ (u k : Nat) (L : Nat → Nat) (N : fI), rnF P nt a b u k L N = rnF P nt b a u k L N := by
  intro u
  induction u with
  | zero => intro k L N; rfl
  | succ u ih =>
    intro k L N
    show (match pkF (fun t => chs P 0 N t nt) L nt 0 with
      | none => some N
      | some r => rnF P nt a b u (k + 1) (if k + 1 = a ∨ k + 1 = b then lowF nt r L else L) (stp P 0 N (L r) 0 nt)) = match pkF (fun t => chs P 0 N t nt) L nt 0 with
      | none => some N
      | some r => rnF P nt b a u (k + 1) (if k + 1 = b ∨ k + 1 = a then lowF nt r L else L) (stp P 0 N (L r) 0 nt)
    cases pkF (fun t => chs P 0 N t nt) L nt 0 with
    | none => rfl
    | some r =>
      show rnF P nt a b u (k + 1) (if k + 1 = a ∨ k + 1 = b then lowF nt r L else L) (stp P 0 N (L r) 0 nt) = rnF P nt b a u (k + 1) (if k + 1 = b ∨ k + 1 = a then lowF nt r L else L) (stp P 0 N (L r) 0 nt)
      have e : (if k + 1 = a ∨ k + 1 = b then lowF nt r L else L) = if k + 1 = b ∨ k + 1 = a then lowF nt r L else L := by
        by_cases q : k + 1 = a ∨ k + 1 = b
        · rw [if_pos q, if_pos q.symm]
        · rw [if_neg q, if_neg (fun z => q z.symm)]
      rw [e]
      exact ih _ _ _
/-- whether it ends with the outcome of K -/
noncomputable def hitN (P : Nat → fI) (nt : Nat) (N0 K : fI) (L : List Nat) (one oth : Nat) : Nat := @ite _ (∃ N', rnF P nt one oth 201 0 (gtL L) N0 = some N' ∧ eqO nt K N') (Classical.propDecidable _) 1 0
theorem hitN_sw {P : Nat → fI} {N0 K : fI} {a b : Nat} : hitN P nt N0 K L a b = hitN P nt N0 K L b a := by
  unfold hitN
  rw [rnF_sw]
end CHP

