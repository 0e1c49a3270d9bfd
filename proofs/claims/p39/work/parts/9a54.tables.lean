/-! TABLES in which rows are looked for: both sides'. T: the table, N its length, n rows are in it, h where each begins. -/
theorem inj_le {N n : Nat} {f : Nat → Nat} (h1 : ∀ p, p < N → f p < n) (h2 : ∀ p q, p < N → q < N → f p = f q → p = q) : N ≤ n := by
  have e : ((List.range N).map f).length = N := by simp
  rw [← e]
  refine nodup_len n _ ?_ ?_
  · unfold List.Nodup
    rw [List.pairwise_map]
    have hp : (List.range N).Pairwise (· < ·) := List.pairwise_lt_range
    refine List.Pairwise.imp_of_mem ?_ hp
    intro a b ha hb hab hf
    have := h2 a b (List.mem_range.mp ha) (List.mem_range.mp hb) hf
    omega
  · intro i hi
    obtain ⟨p, hp, rfl⟩ := List.mem_map.mp hi
    exact h1 p (List.mem_range.mp hp)
def TB (T : fI) (N n : Nat) (h : Nat → Nat) : Prop := (∀ p, p < N → T p = 0 ∨ ∃ i, i < n ∧ T p = nI (i + 1)) ∧ (∀ i, i < n → ∃ e, e < N ∧ T ((h i + e) % N) = nI (i + 1) ∧ ∀ e', e' < e → T ((h i + e') % N) ≠ 0) ∧ ∀ p q, p < N → q < N → T p = T q → T p ≠ 0 → p = q
/-- where a search that begins at H stops: e steps further -/
def stopT (T : fI) (N n H : Nat) (same : Nat → Prop) (e : Nat) : Prop := e < N ∧ (∀ e', e' < e → ∃ i, i < n ∧ T ((H + e') % N) = nI (i + 1) ∧ ¬ same i) ∧ (T ((H + e) % N) = 0 ∨ ∃ i, i < n ∧ T ((H + e) % N) = nI (i + 1) ∧ same i)
section TBs
variable {T : fI} {N n H : Nat} {h : Nat → Nat} {same : Nat → Prop}
theorem tb_0 (hN : 0 < N) : TB (fun _ => 0) N 0 h := ⟨fun _ _ => Or.inl rfl, fun i hi => absurd hi (Nat.not_lt_zero i), fun _ _ _ _ _ h => absurd rfl h⟩
theorem tb_cg {T' : fI} (hT : ∀ p, p < N → T' p = T p) (hN : 0 < N) (g : TB T N n h) : TB T' N n h := by
  obtain ⟨a, b, c⟩ := g
  refine ⟨fun p hp => by rw [hT p hp]; exact a p hp, fun i hi => ?_, fun p q hp hq => by rw [hT p hp, hT q hq]; exact c p q hp hq⟩
  obtain ⟨e, e1, e2, e3⟩ := b i hi
  exact ⟨e, e1, by rw [hT _ (Nat.mod_lt _ hN)]; exact e2, fun e' he => by rw [hT _ (Nat.mod_lt _ hN)]; exact e3 e' he⟩
theorem tb_hcg {h' : Nat → Nat} (hh : ∀ i, i < n → h' i = h i) (g : TB T N n h) : TB T N n h' := ⟨g.1, fun i hi => by rw [hh i hi]; exact g.2.1 i hi, g.2.2⟩
theorem tb_free (hT : TB T N n h) (hn : n < N) (hn31 : n < 2 ^ 30) : ∃ e, e < N ∧ T ((H + e) % N) = 0 := by
  refine Classical.byContradiction fun w => ?_
  have hz : ∀ p, p < N → T p ≠ 0 := by
    intro p hp z
    refine w ⟨(p + (N - H % N)) % N, Nat.mod_lt _ (by omega), ?_⟩
    have hm : H % N < N := Nat.mod_lt _ (by omega)
    have e : (H + (p + (N - H % N)) % N) % N = p := by
      rw [Nat.add_mod, Nat.mod_mod, ← Nat.add_mod]
      have h1 : H + (p + (N - H % N)) = p + N * (H / N + 1) := by
        have := Nat.div_add_mod H N
        rw [Nat.mul_add, Nat.mul_one]
        omega
      rw [h1, Nat.add_mul_mod_self_left, Nat.mod_eq_of_lt hp]
    rw [e]; exact z
  have hi : ∀ p, p < N → clp (T p) - 1 < n ∧ T p = nI (clp (T p) - 1 + 1) := by
    intro p hp
    rcases hT.1 p hp with z | ⟨i, hi, e⟩
    · exact absurd z (hz p hp)
    · rw [e, show clp (nI (i + 1)) = i + 1 from n_clp (by omega)]
      exact ⟨by omega, by rw [Nat.add_sub_cancel]⟩
  have := inj_le (N := N) (n := n) (f := fun p => clp (T p) - 1) (fun p hp => (hi p hp).1) (fun p q hp hq e => hT.2.2 p q hp hq (by
    have e : clp (T p) - 1 = clp (T q) - 1 := e
    rw [(hi p hp).2, (hi q hq).2, e]) (hz p hp))
  omega
theorem tb_stop (hT : TB T N n h) (hn : n < N) (hn31 : n < 2 ^ 30) : ∃ e, stopT T N n H same e := by
  obtain ⟨e0, he0, hz⟩ := tb_free (H := H) hT hn hn31
  have key : ∀ m : Nat, m ≤ N → (∀ e', e' < m → ∃ i, i < n ∧ T ((H + e') % N) = nI (i + 1) ∧ ¬ same i) ∨ ∃ e, stopT T N n H same e := by
    intro m
    induction m with
    | zero => intro _; left; intro e' he; omega
    | succ m ih =>
      intro hm
      rcases ih (by omega) with ih | ih
      · rcases hT.1 ((H + m) % N) (Nat.mod_lt _ (by omega)) with z | ⟨i, hi, e⟩
        · right; exact ⟨m, by omega, ih, Or.inl z⟩
        · by_cases c : same i
          · right; exact ⟨m, by omega, ih, Or.inr ⟨i, hi, e, c⟩⟩
          · left
            intro e' he
            by_cases q : e' = m
            · subst q; exact ⟨i, hi, e, c⟩
            · exact ih e' (by omega)
      · exact Or.inr ih
  rcases key (e0 + 1) (by omega) with k | k
  · obtain ⟨i, hi, e, -⟩ := k e0 (Nat.lt_succ_self e0)
    rw [hz] at e
    have := (nI_eq (a := i + 1) (b := 0) (by omega) (by decide)).mp e.symm
    omega
  · exact k
theorem nz_s {i : Nat} (hi : i + 1 < 2 ^ 31) : nI (i + 1) ≠ 0 := fun z => by
  have := (nI_eq (a := i + 1) (b := 0) hi (by decide)).mp z
  omega
/-- where it stops at a free place there is none like it -/
theorem tb_none (hT : TB T N n h) (hn31 : n < 2 ^ 30) {e : Nat} (he : stopT T N n H same e) (hz : T ((H + e) % N) = 0) (hs : ∀ i, i < n → same i → h i = H) : ∀ i, i < n → ¬ same i := by
  intro i hi c
  obtain ⟨e1, a1, a2, a3⟩ := hT.2.1 i hi
  rw [hs i hi c] at a2 a3
  rcases Nat.lt_trichotomy e e1 with z | z | z
  · exact a3 e z hz
  · rw [← z, hz] at a2; exact nz_s (by omega) a2.symm
  · obtain ⟨j, hj, b1, b2⟩ := he.2.1 e1 z
    rw [a2] at b1
    have := (nI_eq (a := i + 1) (b := j + 1) (by omega) (by omega)).mp b1
    obtain rfl : i = j := by omega
    exact b2 c
/-- a row more -/
theorem tb_add (hT : TB T N n h) (hN : 0 < N) (hn31 : n < 2 ^ 30) {e : Nat} (he : stopT T N n H same e) (hz : T ((H + e) % N) = 0) : TB (upd T ((H + e) % N) (nI (n + 1))) N (n + 1) (fun i => if i = n then H else h i) := by
  obtain ⟨a, b, c⟩ := hT
  have U : ∀ p, p ≠ (H + e) % N → upd T ((H + e) % N) (nI (n + 1)) p = T p := fun p hp => pk_un hp
  have V : upd T ((H + e) % N) (nI (n + 1)) ((H + e) % N) = nI (n + 1) := pk_us
  refine ⟨fun p hp => ?_, fun i hi => ?_, fun p q hp hq e1 e2 => ?_⟩
  · by_cases z : p = (H + e) % N
    · rw [z, V]; exact Or.inr ⟨n, Nat.lt_succ_self n, rfl⟩
    · rw [U p z]; exact (a p hp).imp id (fun ⟨i, hi, e⟩ => ⟨i, by omega, e⟩)
  · by_cases z : i = n
    · subst z
      refine ⟨e, he.1, ?_, fun e' he' => ?_⟩
      · show upd T _ _ (((if i = i then H else h i) + e) % N) = _
        rw [if_pos rfl]; exact V
      · show upd T _ _ (((if i = i then H else h i) + e') % N) ≠ 0
        rw [if_pos rfl]
        by_cases y : (H + e') % N = (H + e) % N
        · rw [y, V]; exact nz_s (by omega)
        · rw [U _ y]
          obtain ⟨j, hj, g, -⟩ := he.2.1 e' he'
          rw [g]; exact nz_s (by omega)
    · obtain ⟨e1, a1, a2, a3⟩ := b i (by omega)
      refine ⟨e1, a1, ?_, fun e' he' => ?_⟩
      · show upd T _ _ (((if i = n then H else h i) + e1) % N) = _
        rw [if_neg z]
        by_cases y : (h i + e1) % N = (H + e) % N
        · rw [y, hz] at a2; exact absurd a2.symm (nz_s (by omega))
        · rw [U _ y]; exact a2
      · show upd T _ _ (((if i = n then H else h i) + e') % N) ≠ 0
        rw [if_neg z]
        by_cases y : (h i + e') % N = (H + e) % N
        · rw [y, V]; exact nz_s (by omega)
        · rw [U _ y]; exact a3 e' he'
  · by_cases z : p = (H + e) % N
    · by_cases y : q = (H + e) % N
      · rw [z, y]
      · exfalso
        rw [z, V, U q y] at e1
        rcases a q hq with g | ⟨i, hi, g⟩
        · rw [g] at e1; exact nz_s (by omega) e1
        · rw [g] at e1
          have := (nI_eq (a := n + 1) (b := i + 1) (by omega) (by omega)).mp e1
          omega
    · rw [U p z] at e1 e2
      by_cases y : q = (H + e) % N
      · exfalso
        rw [y, V] at e1
        rcases a p hp with g | ⟨i, hi, g⟩
        · exact e2 g
        · rw [g] at e1
          have := (nI_eq (a := i + 1) (b := n + 1) (by omega) (by omega)).mp e1
          omega
      · rw [U q y] at e1
        exact c p q hp hq e1 e2
end TBs
theorem and_nI {x : Int32} {m : Nat} (hm : m < 2 ^ 31) : x &&& nI m = nI (x.toBitVec.toNat &&& m) := by
  rw [← Int32.toBitVec_inj, Int32.toBitVec_and]
  show x.toBitVec &&& BitVec.ofNat 32 m = BitVec.ofNat 32 _
  refine BitVec.eq_of_toNat_eq ?_
  rw [BitVec.toNat_and, BitVec.toNat_ofNat, BitVec.toNat_ofNat, Nat.mod_eq_of_lt (by omega : m < 2 ^ 32)]
  have : x.toBitVec.toNat &&& m ≤ m := Nat.and_le_right
  rw [Nat.mod_eq_of_lt (by omega)]
theorem and_pow {p k : Nat} : p &&& (2 ^ k - 1) = p % 2 ^ k := Nat.and_two_pow_sub_one_eq_mod ..
theorem nI_and {p k : Nat} (hp : p < 2 ^ 31) (hk : k ≤ 30) : nI p &&& nI (2 ^ k - 1) = nI (p % 2 ^ k) := by
  have h2 : 2 ^ k ≤ 2 ^ 30 := Nat.pow_le_pow_right (by decide) hk
  rw [and_nI (by omega)]
  show nI ((BitVec.ofNat 32 p).toNat &&& (2 ^ k - 1)) = _
  rw [BitVec.toNat_ofNat, Nat.mod_eq_of_lt (by omega), and_pow]
/-- the next place, round -/
theorem nxt_pl {H e k : Nat} (hk : k ≤ 30) : (nI ((H + e) % 2 ^ k) + (1 : Int32)) &&& nI (2 ^ k - 1) = nI ((H + (e + 1)) % 2 ^ k) := by
  have h2 : 2 ^ k ≤ 2 ^ 30 := Nat.pow_le_pow_right (by decide) hk
  have h3 : (H + e) % 2 ^ k < 2 ^ k := Nat.mod_lt _ (Nat.two_pow_pos k)
  rw [n_ar, nI_and (by show _ + 1 < _; omega) hk]
  congr 1
  show ((H + e) % 2 ^ k + 1) % 2 ^ k = _
  rw [Nat.mod_add_mod, Nat.add_assoc]

