/-! ROWS OF A STATE, the class's side: two slots in a long; pick, pack, unpack, keep, come back. -/
def pk2 (x y : Int32) : Int64 := (x.toInt64 <<< ((32 : Int32).toInt64 &&& 63)) ||| (y.toInt64 &&& (4294967295 : Int64))
theorem s32 : ((32 : Int32).toInt64 &&& 63).toBitVec.smod 64 = 32#64 := by decide
theorem m32 {i : Nat} (hi : i < 64) : (4294967295 : Int64).toBitVec.getLsbD i = decide (i < 32) := by
  have key : ∀ i : Nat, i < 64 → (4294967295 : Int64).toBitVec.getLsbD i = decide (i < 32) := by decide
  exact key i hi
theorem toI32_bv {z : Int64} : z.toInt32.toBitVec = z.toBitVec.setWidth 32 := by
  rw [Int64.toBitVec_toInt32]
  exact BitVec.signExtend_eq_setWidth_of_le _ (by decide)
theorem pk2_bit {x y : Int32} {i : Nat} (hi : i < 64) : (pk2 x y).toBitVec.getLsbD i = if i < 32 then y.toBitVec.getLsbD i else x.toBitVec.getLsbD (i - 32) := by
  unfold pk2
  rw [Int64.toBitVec_or, BitVec.getLsbD_or, Int64.toBitVec_and, BitVec.getLsbD_and, m32 hi, Int64.toBitVec_shiftLeft, s32]
  rw [show (32#64) = BitVec.ofNat 64 32 from rfl, BitVec.shiftLeft_eq', BitVec.toNat_ofNat, BitVec.getLsbD_shiftLeft]
  rw [Int32.toBitVec_toInt64, Int32.toBitVec_toInt64, BitVec.getLsbD_signExtend, BitVec.getLsbD_signExtend]
  by_cases q : i < 32
  · rw [if_pos q, if_pos q, decide_eq_true hi, decide_eq_true q, Bool.and_true, Bool.true_and, show (32 % 2 ^ 64 : Nat) = 32 from rfl]
    rfl
  · have h3 : i - 32 < 32 := by omega
    have h2 : i - 32 < 64 := by omega
    rw [if_neg q, decide_eq_false q, Bool.and_false, Bool.or_false, decide_eq_true hi, show (32 % 2 ^ 64 : Nat) = 32 from rfl, decide_eq_true h2, if_pos h3, if_neg q]
    rfl
theorem pk2_hi {x y : Int32} : ((pk2 x y) >>> ((32 : Int32).toInt64 &&& 63)).toInt32 = x := by
  rw [← Int32.toBitVec_inj]
  have e0 : (((pk2 x y) >>> ((32 : Int32).toInt64 &&& 63)).toInt32).toBitVec = ((pk2 x y).toBitVec.sshiftRight 32).setWidth 32 := by
    have e1 : ((pk2 x y) >>> ((32 : Int32).toInt64 &&& 63)).toBitVec = (pk2 x y).toBitVec.sshiftRight 32 := by
      rw [Int64.toBitVec_shiftRight, s32, show (32#64) = BitVec.ofNat 64 32 from rfl, BitVec.sshiftRight_eq', BitVec.toNat_ofNat]
    rw [← e1]
    generalize ((pk2 x y) >>> ((32 : Int32).toInt64 &&& 63)) = z
    exact toI32_bv
  rw [e0]
  refine BitVec.eq_of_getLsbD_eq fun i hi => ?_
  rw [BitVec.getLsbD_setWidth, BitVec.getLsbD_sshiftRight]
  have h2 : 32 + i < 64 := by omega
  have e := pk2_bit (x := x) (y := y) h2
  rw [if_neg (by omega), show 32 + i - 32 = i by omega] at e
  rw [decide_eq_true hi, Bool.true_and, decide_eq_false (show ¬ 64 ≤ i by omega), if_pos h2, e]
  rfl
theorem pk2_lo {x y : Int32} : (pk2 x y).toInt32 = y := by
  rw [← Int32.toBitVec_inj, toI32_bv]
  refine BitVec.eq_of_getLsbD_eq fun i hi => ?_
  have e := pk2_bit (x := x) (y := y) (show i < 64 by omega)
  rw [if_pos hi] at e
  rw [BitVec.getLsbD_setWidth, e, decide_eq_true hi, Bool.true_and]
theorem pk2_inj {x y x' y' : Int32} (h : pk2 x y = pk2 x' y') : x = x' ∧ y = y' := ⟨by rw [← pk2_hi (x := x) (y := y), h, pk2_hi], by rw [← pk2_lo (x := x) (y := y), h, pk2_lo]⟩
theorem n_d2 {z : Nat} (h : z < 2 ^ 31) : nI z / (2 : Int32) = nI (z / 2) := by
  have e : (nI z / (2 : Int32)).toInt = (nI (z / 2)).toInt := by
    rw [Int32.toInt_div, n_to h, n_to (by omega)]
    show ((z : Int).tdiv (2 : Int)).bmod (2 ^ 32) = _
    rw [show (2 : Int) = ((2 : Nat) : Int) from rfl, ← Int.ofNat_tdiv]
    rw [Int.bmod_eq_of_le (by omega) (by omega)]
  exact Int32.toInt_inj.mp e
/-- a state's row of longs -/
def pkR (L : List Nat) (N : fI) : fJ := fun j => pk2 (N (L.getD (2 * j) 0)) (N (L.getD (2 * j + 1) 0))
theorem getD_mem {L : List Nat} {i : Nat} (h : i < L.length) : L.getD i 0 ∈ L := by
  rw [List.getD_eq_getElem?_getD, List.getElem?_eq_getElem h]
  exact List.getElem_mem h
theorem mem_getD {L : List Nat} {a : Nat} (h : a ∈ L) : ∃ i, i < L.length ∧ L.getD i 0 = a := by
  obtain ⟨i, hi, e⟩ := List.getElem_of_mem h
  exact ⟨i, hi, by rw [List.getD_eq_getElem?_getD, List.getElem?_eq_getElem hi]; exact e⟩
theorem pkR_cg {L : List Nat} {N M : fI} (he : L.length % 2 = 0) (h : ∀ a, a ∈ L → N a = M a) : ∀ j, j < L.length / 2 → pkR L N j = pkR L M j := fun j hj => by
  unfold pkR
  rw [h _ (getD_mem (by omega)), h _ (getD_mem (by omega))]
theorem pkR_inj {L : List Nat} {N M : fI} (he : L.length % 2 = 0) (h : ∀ j, j < L.length / 2 → pkR L N j = pkR L M j) : ∀ a, a ∈ L → N a = M a := fun a ha => by
  obtain ⟨i, hi, rfl⟩ := mem_getD ha
  have := pk2_inj (h (i / 2) (by omega))
  rcases Nat.mod_two_eq_zero_or_one i with q | q
  · rw [show i = 2 * (i / 2) by omega]; exact this.1
  · rw [show i = 2 * (i / 2) + 1 by omega]; exact this.2
section PKX
variable {en : pN} {d m p a f nt nc nl w n : Nat} {σ : qS} {P : Nat → fI} {F N M G R : fI} {b : Int32} {L : List Nat}
/-- the machine's slots are L -/
abbrev slI (σ : qS) (m : Nat) (F : fI) (L : List Nat) : Prop := F 5 = nI L.length ∧ L.length ≤ 220 ∧ L.length % 2 = 0 ∧ (∀ i, i < L.length → σ.1 (m + 4) i = nI (L.getD i 0)) ∧ ∀ x ∈ L, x < 236
theorem ml4 (hm : m = 71 ∨ m = 112) : ln (m + 4) = 220 ∧ lc (m + 4) = 20 := by rcases hm with rfl | rfl <;> exact ⟨rfl, rfl⟩
theorem mS_uJ {k : Nat} {v : Int64} : uJ (mS σ m F N b G) a k v = mS (uJ σ a k v) m F N b G := rfl
theorem mS_J : (mS σ m F N b G).2 = σ.2 := rfl
theorem x_pack (hB : XB σ m p P) (hs : slI σ m F L) (hnt : P 0 11 = nI nt) (h4 : nt ≤ 4) (ha : lc a = 21) (hla : 110 ≤ ln a ∧ ln a < 2 ^ 30) : ∃ σ', qev en (d + 2) 38 [.ref m, .ref a] (mS σ m F N b G) = some (none, mS σ' m F (upd N 233 (nI (soS N nt))) b G) ∧ σ'.1 = σ.1 ∧ σ'.2.2 = σ.2.2 ∧ (∀ x, x ≠ a → σ'.2.1 x = σ.2.1 x) ∧ ∀ j, j < L.length / 2 → σ'.2.1 a j = pkR L (upd N 233 (nI (soS N nt))) j := by
  obtain ⟨s1, s2, s3, s4, s5⟩ := hs
  have hm := hB.1
  have loop : ∀ (k j : Nat) (σ1 : qS), j + k = L.length / 2 → σ1.1 = σ.1 → σ1.2.2 = σ.2.2 → (∀ x, x ≠ a → σ1.2.1 x = σ.2.1 x) → (∀ i, i < j → σ1.2.1 a i = pkR L (upd N 233 (nI (soS N nt))) i) → ∃ σ', L_X3_pack_14 en (d + 1) m a (nI (2 * j)) (mS σ1 m F (upd N 233 (nI (soS N nt))) b G) = some (none, mS σ' m F (upd N 233 (nI (soS N nt))) b G) ∧ σ'.1 = σ.1 ∧ σ'.2.2 = σ.2.2 ∧ (∀ x, x ≠ a → σ'.2.1 x = σ.2.1 x) ∧ ∀ j, j < L.length / 2 → σ'.2.1 a j = pkR L (upd N 233 (nI (soS N nt))) j := by
    intro k
    induction k with
    | zero =>
      intro j σ1 hj e1 e2 e3 e4
      refine ⟨σ1, le_X3_pack_14 en (d + 1) _ _ _ _ _ ?_, e1, e2, e3, fun i hi => e4 i (by omega)⟩
      rw [gd_true (xb_lm hB), gd_true ha, mS_m, s1, if_pos (by rw [n_LE (by omega) (by omega)]; omega)]
    | succ k ih =>
      intro j σ1 hj e1 e2 e3 e4
      have i0 : 2 * j < L.length := by omega
      have i1 : 2 * j + 1 < L.length := by omega
      have r4 : (mS σ1 m F (upd N 233 (nI (soS N nt))) b G).1 (m + 4) = σ.1 (m + 4) := by rw [mS_o (by omega) (by omega) (by omega) (by omega), e1]
      have rn : (mS σ1 m F (upd N 233 (nI (soS N nt))) b G).1 (m + 1) = upd N 233 (nI (soS N nt)) := mS_n
      have v0 := s5 _ (getD_mem i0)
      have v1 := s5 _ (getD_mem i1)
      have d2 : nI (2 * j) / (2 : Int32) = nI j := by rw [n_d2 (by omega), show 2 * j / 2 = j by omega]
      obtain ⟨σ', k1, k2, k3, k4, k5⟩ := ih (j + 1) (uJ σ1 a j (pk2 (upd N 233 (nI (soS N nt)) (L.getD (2 * j) 0)) (upd N 233 (nI (soS N nt)) (L.getD (2 * j + 1) 0)))) (by omega) e1 e2 (fun x hx => (uJ_ne hx).trans (e3 x hx)) (fun i hi => by
        rw [g_J]
        by_cases q : i = j
        · rw [if_pos ⟨rfl, q⟩, q]; rfl
        · rw [if_neg (fun z => q z.2)]; exact e4 i (by omega))
      refine ⟨σ', le_X3_pack_14 en (d + 1) _ _ _ _ _ ?_, k2, k3, k4, k5⟩
      rw [gd_true (xb_lm hB), gd_true ha, mS_m, s1, if_neg (by rw [n_LE (by omega) (by omega)]; omega), gd_true (n_in (by omega) (by decide)), r4, n_cl (by omega), s4 _ i0, gd_true (n_in v0 (by decide)), n_ar, gd_true (n_in (by show 2 * j + 1 < _; omega) (by decide)), n_cl (by show 2 * j + 1 < _; omega), show σ.1 (m + 4) (2 * j + (1 : Nat)) = nI (L.getD (2 * j + 1) 0) from s4 _ i1, gd_true (n_in v1 (by decide)), d2, gd_true (n_in (by omega) (by omega)), nm_eq, rn, n_cl (by omega), n_cl (by omega), n_cl (by omega), n_ar]
      exact k1
  obtain ⟨σ', k1, k2⟩ := loop (L.length / 2) 0 σ (by omega) rfl rfl (fun _ _ => rfl) (fun i hi => absurd hi (Nat.not_lt_zero i))
  refine ⟨σ', le_X3_pack en (d + 1) _ _ _ _ ?_, k2⟩
  rw [gd_true (xb_lm hB), gd_true ha, x_sort hB hnt h4, bI_some, nm_eq, mS_wn]
  exact k1
theorem x_unpack (hm : m = 71 ∨ m = 112) (hlm : lc m = 3) (hs : slI σ m F L) (ha : lc a = 21) (hf : f + L.length / 2 ≤ ln a) (hla : ln a < 2 ^ 30) (hr : ∀ j, j < L.length / 2 → σ.2.1 a (f + j) = pkR L M j) : ∃ N', qev en (d + 1) 39 [.ref m, .ref a, .int (nI f)] (mS σ m F N b G) = some (none, mS σ m F N' b G) ∧ (∀ x, x ∈ L → N' x = M x) ∧ (∀ x, x ∉ L → N' x = N x) := by
  obtain ⟨s1, s2, s3, s4, s5⟩ := hs
  have loop : ∀ (k j : Nat) (N1 : fI), j + k = L.length / 2 → (∀ i, i < 2 * j → N1 (L.getD i 0) = M (L.getD i 0)) → (∀ x, x ∉ L → N1 x = N x) → ∃ N', L_X3_unpack_2 en d m a (nI f) (nI (2 * j)) (mS σ m F N1 b G) = some (none, mS σ m F N' b G) ∧ (∀ x, x ∈ L → N' x = M x) ∧ (∀ x, x ∉ L → N' x = N x) := by
    intro k
    induction k with
    | zero =>
      intro j N1 hj e1 e2
      refine ⟨N1, le_X3_unpack_2 en d _ _ _ _ _ _ ?_, fun x hx => ?_, e2⟩
      · rw [gd_true hlm, gd_true ha, mS_m, s1, if_pos (by rw [n_LE (by omega) (by omega)]; omega)]
      · obtain ⟨i, hi, rfl⟩ := mem_getD hx
        exact e1 i (by omega)
    | succ k ih =>
      intro j N1 hj e1 e2
      have i0 : 2 * j < L.length := by omega
      have i1 : 2 * j + 1 < L.length := by omega
      have r4 : ∀ N2 : fI, (mS σ m F N2 b G).1 (m + 4) = σ.1 (m + 4) := fun N2 => by rw [mS_o (by omega) (by omega) (by omega) (by omega)]
      have v0 := s5 _ (getD_mem i0)
      have v1 := s5 _ (getD_mem i1)
      have d2 : nI (2 * j) / (2 : Int32) = nI j := by rw [n_d2 (by omega), show 2 * j / 2 = j by omega]
      obtain ⟨N', k1, k2, k3⟩ := ih (j + 1) (upd (upd N1 (L.getD (2 * j) 0) (M (L.getD (2 * j) 0))) (L.getD (2 * j + 1) 0) (M (L.getD (2 * j + 1) 0))) (by omega) (fun i hi => by
        by_cases q : L.getD i 0 = L.getD (2 * j + 1) 0
        · rw [q, pk_us]
        · rw [pk_un q]
          by_cases q2 : L.getD i 0 = L.getD (2 * j) 0
          · rw [q2, pk_us]
          · rw [pk_un q2]
            refine e1 i ?_
            refine Classical.byContradiction fun w => ?_
            rcases (by omega : i = 2 * j ∨ i = 2 * j + 1) with z | z
            · exact q2 (by rw [z])
            · exact q (by rw [z])) (fun x hx => by
        rw [pk_un (fun z => hx (by rw [z]; exact getD_mem i1)), pk_un (fun z => hx (by rw [z]; exact getD_mem i0))]
        exact e2 x hx)
      refine ⟨N', le_X3_unpack_2 en d _ _ _ _ _ _ ?_, k2, k3⟩
      rw [gd_true hlm, gd_true ha, mS_m, s1, if_neg (by rw [n_LE (by omega) (by omega)]; omega), d2, nI_add, gd_true (n_in (by omega) (by omega)), nm_eq, n_cl (by omega), gd_true (n_in (by omega) (by decide)), r4, n_cl (by omega), s4 _ i0, gd_true (n_in v0 (by decide)), nm_eq, n_cl (by omega), mS_wn, n_ar, gd_true (n_in (by show 2 * j + 1 < _; omega) (by decide)), r4, n_cl (by show 2 * j + 1 < _; omega), show σ.1 (m + 4) (2 * j + (1 : Nat)) = nI (L.getD (2 * j + 1) 0) from s4 _ i1, gd_true (n_in v1 (by decide)), nm_eq, n_cl (by omega), mS_wn, n_ar, show (mS σ m F N1 b G).2.1 a (f + j) = pkR L M j from hr j (by omega)]
      have h1 : ((pkR L M j) >>> ((32 : Int32).toInt64 &&& 63)).toInt32 = M (L.getD (2 * j) 0) := pk2_hi
      have h2 : (pkR L M j).toInt32 = M (L.getD (2 * j + 1) 0) := pk2_lo
      rw [h1, h2]
      exact k1
  obtain ⟨N', k1, k2, k3⟩ := loop (L.length / 2) 0 N (by omega) (fun i hi => by omega) (fun _ _ => rfl)
  refine ⟨N', le_X3_unpack en d _ _ _ _ _ ?_, k2, k3⟩
  rw [gd_true hlm, gd_true ha]
  exact k1
theorem va236 {f g : fI} {j : Nat} : va_cpy f g (0 : Int32).toNatClampNeg (0 : Int32).toNatClampNeg (236 : Int32).toNatClampNeg j = if j < 236 then f j else g j := by
  show (if 0 ≤ j ∧ j < 0 + 236 then f (0 + (j - 0)) else g j) = _
  by_cases q : j < 236
  · rw [if_pos ⟨Nat.zero_le _, by omega⟩, if_pos q, show 0 + (j - 0) = j by omega]
  · rw [if_neg (by omega), if_neg q]
/-- kept, and come back -/
theorem x_keep (hlm : lc m = 3) : qev en (d + 1) 40 [.ref m] (mS σ m F N b G) = some (none, uIr (mS σ m F N b G) (m + 2) (fun j => if j < 236 then N j else (mS σ m F N b G).1 (m + 2) j)) := by
  refine le_X3_keep en d _ _ _ ?_
  rw [gd_true hlm, gd_true ⟨by decide, by decide⟩, nm_eq, mS_n]
  congr 3
  funext j
  exact va236
theorem x_comeBack (hm : m = 71 ∨ m = 112) (hlm : lc m = 3) : qev en (d + 1) 41 [.ref m] (mS σ m F N b G) = some (none, mS σ m F (fun j => if j < 236 then σ.1 (m + 2) j else N j) b G) := by
  refine le_X3_comeBack en d _ _ _ ?_
  rw [gd_true hlm, gd_true ⟨by decide, by decide⟩, nm_eq, mS_n, mS_o (by omega) (by omega) (by omega) (by omega), mS_wr]
  congr 3
  funext j
  exact va236
end PKX

