/-! TWO THREADS, ONE MEMORY: outcomes of all turns and of fewer; how long runs are. -/
/-- lines go on to lines of greater rank -/
abbrev RK (P : Nat → fI) (n : Nat) (ρ : Nat → Nat) (R : Nat) : Prop := (∀ i, i < n → ρ i < R) ∧ ∀ i j, i < n → j < n → (P 22 i = nI j ∨ P 23 i = nI j) → ρ i < ρ j
def pos (ρ : Nat → Nat) (R t : Nat) (N : fI) : Nat := if N t = 1 then ρ (clp (N (4 + t))) else R
section OUT
variable {P : Nat → fI} {nc nl n t u i j k o m w nt R : Nat} {N M : fI} {l l' : List Nat} {X Y x y : xT} {fw : Bool} {S : Nat → fI} {ρ : Nat → Nat}
theorem pig : ∀ (n m : Nat) (f : Nat → Nat), (∀ i, i < n → f i < m) → (∀ i j, i < n → j < n → f i = f j → i = j) → n ≤ m := by
  intro n m f h1 h2
  have hd : ((List.range n).map f).Nodup := by
    rw [List.nodup_iff_pairwise_ne, List.pairwise_map]
    refine List.Pairwise.imp_of_mem ?_ List.nodup_range
    intro a b ha hb hab z
    exact hab (h2 a b (List.mem_range.mp ha) (List.mem_range.mp hb) z)
  have := nodup_len m ((List.range n).map f) hd (fun i hi => by
    obtain ⟨a, ha, rfl⟩ := List.mem_map.mp hi
    exact h1 a (List.mem_range.mp ha))
  rw [List.length_map, List.length_range] at this
  exact this
/-- from a relation -/
theorem pigR {r : Nat → Nat → Prop} (n m : Nat) (h1 : ∀ i, i < n → ∃ j, j < m ∧ r i j) (h2 : ∀ i i' j, i < n → i' < n → r i j → r i' j → i = i') : n ≤ m := by
  refine pig n m (fun i => @dite _ (∃ j, j < m ∧ r i j) (Classical.propDecidable _) (fun z => z.choose) (fun _ => 0)) (fun i hi => ?_) (fun i j hi hj z => ?_)
  · rw [dif_pos (h1 i hi)]
    exact (h1 i hi).choose_spec.1
  · rw [dif_pos (h1 i hi), dif_pos (h1 j hj)] at z
    have a := (h1 i hi).choose_spec.2
    have b := (h1 j hj).choose_spec.2
    rw [← z] at b
    exact h2 i j _ hi hj a b
theorem eqO_of (h : eqS N M) (hnt : nt ≤ 4) : eqO nt N M := ⟨cg_soS h hnt, fun j _ h2 => h j (by omega), fun j _ h2 => h j (by omega)⟩
theorem outL_all : ∀ M s, s < M → endC P w (S s) nt = true → ∃ o, o < (outL P w nt S M).length ∧ eqO nt (S ((outL P w nt S M).getD o 0)) (S s) := by
  intro M
  induction M with
  | zero => intro s hs; omega
  | succ M ih =>
    intro s hs he
    have ext : ∀ o, o < (outL P w nt S M).length → eqO nt (S ((outL P w nt S M).getD o 0)) (S s) → ∃ o, o < (outL P w nt S (M + 1)).length ∧ eqO nt (S ((outL P w nt S (M + 1)).getD o 0)) (S s) := by
      intro o h1 h2
      refine ⟨o, ?_⟩
      have e0 : outL P w nt S (M + 1) = if endC P w (S M) nt = true then (match fndO nt S (S M) (outL P w nt S M) 0 with
        | some _ => outL P w nt S M
        | none => outL P w nt S M ++ [M]) else outL P w nt S M := rfl
      rw [e0]
      split
      · split
        · exact ⟨h1, h2⟩
        · rw [List.length_append, getD_snoc, if_neg (by omega)]
          exact ⟨by omega, h2⟩
      · exact ⟨h1, h2⟩
    by_cases q : s = M
    · subst q
      cases e : fndO nt S (S s) (outL P w nt S s) 0 with
      | some j =>
        obtain ⟨-, b1, b2⟩ := fndO_some _ _ _ e
        rw [Nat.sub_zero] at b1 b2
        exact ext j b1 b2
      | none =>
        have e0 : outL P w nt S (s + 1) = if endC P w (S s) nt = true then (match fndO nt S (S s) (outL P w nt S s) 0 with
          | some _ => outL P w nt S s
          | none => outL P w nt S s ++ [s]) else outL P w nt S s := rfl
        rw [if_pos he, e] at e0
        refine ⟨(outL P w nt S s).length, ?_⟩
        rw [e0]
        dsimp only
        rw [List.length_append, getD_snoc, if_pos rfl]
        exact ⟨by simp, rfl, fun _ _ _ => rfl, fun _ _ _ => rfl⟩
    · obtain ⟨o, h1, h2⟩ := ih s (by omega) he
      exact ext o h1 h2
/-- the state that tells outcome o -/
theorem oK_w (hG : GP P nc nl n) (h : expl P 0 nc nl 2 fw = some X) (ho : o < (outL P 0 2 (xS X) (xN X)).length) : oK P 0 2 X o < xN X ∧ SV P 0 nc nl 2 n (xS X (oK P 0 2 X o)) ∧ en0 P (xS X (oK P 0 2 X o)) := by
  obtain ⟨-, hX⟩ := GP.CL hG h
  obtain ⟨a, b, -⟩ := out_first ho
  have hS := hX.2.1 _ a
  exact ⟨a, hS, (endC_0 hG hS).mp b⟩
/-- an end among the states has an outcome -/
theorem out_of (hG : GP P nc nl n) (h : expl P 0 nc nl 2 fw = some X) (hi : i < xN X) (hN : SV P 0 nc nl 2 n N) (hs : eqS (xS X i) N) (he : en0 P N) : ∃ o, o < (outL P 0 2 (xS X) (xN X)).length ∧ eqO 2 (xS X (oK P 0 2 X o)) N := by
  obtain ⟨-, hX⟩ := GP.CL hG h
  have hS := hX.2.1 i hi
  obtain ⟨o, h1, h2⟩ := outL_all (P := P) (w := 0) (nt := 2) (S := xS X) (xN X) i hi ((endC_0 hG hS).mpr (en0_cg hG hN hS hs.sy he))
  exact ⟨o, h1, h2.tr (eqO_of hs (by decide))⟩
/-- an end that is come to has an outcome among those of all turns -/
theorem out_all (hG : GP P nc nl n) (h : expl P 0 nc nl 2 false = some X) (hv : vp P l (f00 P nc)) (he : en0 P (pth P l (f00 P nc))) : ∃ o, o < (outL P 0 2 (xS X) (xN X)).length ∧ eqO 2 (xS X (oK P 0 2 X o)) (pth P l (f00 P nc)) := by
  obtain ⟨s, s1, s2⟩ := z_all hG h hv
  exact out_of hG h s1 (vp_w hG l _ (f00_w hG) hv) s2 he
theorem out_few (hG : GP P nc nl n) (h : expl P 0 nc nl 2 true = some X) (hv : vp P l (f00 P nc)) (he : en0 P (pth P l (f00 P nc))) : ∃ o, o < (outL P 0 2 (xS X) (xN X)).length ∧ eqO 2 (xS X (oK P 0 2 X o)) (pth P l (f00 P nc)) := by
  have h0 := z_f00 hG h
  rw [← h0] at hv he ⊢
  obtain ⟨s, s1, s2⟩ := few_end hG h l.length l 0 rfl (GP.CL hG h).2.1.1 hv he
  exact out_of hG h s1 (vp_w hG l _ (by rw [h0]; exact f00_w hG) hv) s2 he
theorem out_path (hG : GP P nc nl n) (h : expl P 0 nc nl 2 fw = some X) (ho : o < (outL P 0 2 (xS X) (xN X)).length) : ∃ l, vp P l (f00 P nc) ∧ en0 P (pth P l (f00 P nc)) ∧ eqS (pth P l (f00 P nc)) (xS X (oK P 0 2 X o)) := by
  obtain ⟨a, b, c⟩ := oK_w hG h ho
  obtain ⟨l, l1, l2⟩ := z_come hG h _ a
  exact ⟨l, l1, en0_cg hG b (vp_w hG l _ (f00_w hG) l1) l2.sy c, l2⟩
/-- all turns and fewer have the same outcomes, fewer no more states -/
theorem few_same (hG : GP P nc nl n) (h : expl P 0 nc nl 2 false = some X) (g : expl P 0 nc nl 2 true = some Y) : xN Y ≤ xN X ∧ (outL P 0 2 (xS Y) (xN Y)).length = (outL P 0 2 (xS X) (xN X)).length ∧ ∀ o, o < (outL P 0 2 (xS Y) (xN Y)).length → ∃ o', o' < (outL P 0 2 (xS X) (xN X)).length ∧ eqO 2 (xS X (oK P 0 2 X o')) (xS Y (oK P 0 2 Y o)) := by
  obtain ⟨-, hX⟩ := GP.CL hG h
  obtain ⟨-, hY⟩ := GP.CL hG g
  have c1 : ∀ o, o < (outL P 0 2 (xS Y) (xN Y)).length → ∃ o', o' < (outL P 0 2 (xS X) (xN X)).length ∧ eqO 2 (xS X (oK P 0 2 X o')) (xS Y (oK P 0 2 Y o)) := by
    intro o ho
    obtain ⟨l, l1, l2, l3⟩ := out_path hG g ho
    obtain ⟨o', b1, b2⟩ := out_all hG h l1 l2
    exact ⟨o', b1, b2.tr (eqO_of l3 (by decide))⟩
  have c2 : ∀ o, o < (outL P 0 2 (xS X) (xN X)).length → ∃ o', o' < (outL P 0 2 (xS Y) (xN Y)).length ∧ eqO 2 (xS Y (oK P 0 2 Y o')) (xS X (oK P 0 2 X o)) := by
    intro o ho
    obtain ⟨l, l1, l2, l3⟩ := out_path hG h ho
    obtain ⟨o', b1, b2⟩ := out_few hG g l1 l2
    exact ⟨o', b1, b2.tr (eqO_of l3 (by decide))⟩
  refine ⟨?_, Nat.le_antisymm ?_ ?_, c1⟩
  · refine pigR (r := fun i j => eqS (xS X j) (xS Y i)) _ _ (fun i hi => ?_) (fun i i' j hi hi' a b => hY.2.2.1 i i' hi hi' (eqS.tr a.sy b))
    obtain ⟨l, l1, l2⟩ := z_come hG g i hi
    obtain ⟨s, s1, s2⟩ := z_all hG h l1
    exact ⟨s, s1, eqS.tr s2 l2⟩
  · exact pigR (r := fun i j => eqO 2 (xS X (oK P 0 2 X j)) (xS Y (oK P 0 2 Y i))) _ _ c1 (fun i i' j hi hi' a b => outL_unl _ i i' hi hi' (a.sy.tr b))
  · exact pigR (r := fun i j => eqO 2 (xS Y (oK P 0 2 Y j)) (xS X (oK P 0 2 X i))) _ _ c2 (fun i i' j hi hi' a b => outL_unl _ i i' hi hi' (a.sy.tr b))
/-! ranks -/
theorem tgt_ln (hG : GP P nc nl n) (hk : RK P n ρ R) (hi : i < n) (h8 : P 8 i = nI t) : tgtS P N i (kd P i) = -1 ∨ ∃ j, j < n ∧ tgtS P N i (kd P i) = nI j ∧ ρ i < ρ j := by
  obtain ⟨⟨u, hu, h8', -, g1, g2, -⟩, -, -, g4⟩ := gp_ln hG hi
  have key : ∀ x, (x = P 22 i ∨ x = P 23 i) → x = -1 ∨ ∃ j, j < n ∧ x = nI j ∧ ρ i < ρ j := by
    intro x hx
    rcases hx with rfl | rfl
    · rcases g1 with q | ⟨j, q, hj, -⟩
      · exact Or.inl q
      · exact Or.inr ⟨j, hj, q, hk.2 i j hi hj (Or.inl q)⟩
    · rcases g2 with q | ⟨j, q, hj, -⟩
      · exact Or.inl q
      · exact Or.inr ⟨j, hj, q, hk.2 i j hi hj (Or.inr q)⟩
  unfold tgtS
  rw [if_neg (show ¬ kd P i = 13 by omega)]
  split
  · exact key _ (Or.inl rfl)
  · exact key _ (Or.inr rfl)
theorem pos_step (hG : GP P nc nl n) (hk : RK P n ρ R) (hS : SV P 0 nc nl 2 n N) (ht : t < 2) (hr : rd0 P t N) : pos ρ R t N < pos ρ R t (sp P t N) ∧ pos ρ R t (sp P t N) ≤ R := by
  obtain ⟨hi, -, h8⟩ := run_ln hG.1 hS ht hr.1
  have hn := hG.1.2.2.2.1.2
  have e0 := sp_0 hG hS ht hr
  have et := e0 t (by omega)
  have e4 := e0 (4 + t) (by omega)
  have hR := hk.1 _ hi
  have p0 : pos ρ R t N = ρ (clp (N (4 + t))) := if_pos hr.1
  rw [p0]
  unfold pos
  rw [et, e4]
  unfold st0
  by_cases g : (ac0 P N t (clp (N (4 + t)))).1 = 0
  · rw [if_neg (not_not_intro g)]
    have w1 : ∀ (A : fI) (x : Int32), gto A t x t = if 0 ≤ x then 1 else 4 := fun A x => pk_us
    have w2 : ∀ (A : fI) (x : Int32), gto A t x (4 + t) = x := fun A x => (pk_un (show 4 + t ≠ t by omega)).trans pk_us
    rw [w1, w2]
    rcases tgt_ln (N := N) hG hk hi h8 with q | ⟨j, hj, q, hr⟩
    · rw [q, if_neg (show ¬ (0 : Int32) ≤ -1 by decide), if_neg (show ¬ (4 : Int32) = 1 by decide)]
      exact ⟨hR, Nat.le_refl _⟩
    · rw [q, if_pos (Int32.not_lt.mp (nI_pos (show j < 2 ^ 31 by omega))), if_pos rfl, n_clp (show j < 2 ^ 31 by omega)]
      exact ⟨hr, Nat.le_of_lt (hk.1 j hj)⟩
  · rw [if_pos g]
    have w1 : ∀ (A : fI) (x : Int32), wrg A t x t = 5 := fun A x => (pk_un (show t ≠ 8 + t by omega)).trans ((pk_un (show t ≠ 4 + t by omega)).trans pk_us)
    rw [w1, if_neg (show ¬ (5 : Int32) = 1 by decide)]
    exact ⟨hR, Nat.le_refl _⟩
theorem pos_u (hG : GP P nc nl n) (hS : SV P 0 nc nl 2 n N) (ht : t < 2) (hu : u < 2) (htu : t ≠ u) (hr : rd0 P u N) : pos ρ R t (sp P u N) = pos ρ R t N := by
  have h := sp_u hG hS ht hu htu hr
  unfold pos
  rw [h t (by omega), h (4 + t) (by omega)]
theorem pos_le (hG : GP P nc nl n) (hk : RK P n ρ R) (hS : SV P 0 nc nl 2 n N) (ht : t < 2) : pos ρ R t N ≤ R := by
  unfold pos
  split
  · rename_i h
    exact Nat.le_of_lt (hk.1 _ (run_ln hG.1 hS ht h).1)
  · exact Nat.le_refl _
/-- both threads' places together grow with each step -/
theorem pos_sum (hG : GP P nc nl n) (hk : RK P n ρ R) (hS : SV P 0 nc nl 2 n N) (ht : t < 2) (hr : rd0 P t N) : pos ρ R 0 N + pos ρ R 1 N < pos ρ R 0 (sp P t N) + pos ρ R 1 (sp P t N) := by
  have a := (pos_step hG hk hS ht hr).1
  have : t = 0 ∨ t = 1 := by omega
  rcases this with rfl | rfl
  · rw [pos_u (t := 1) hG hS (by decide) (by decide) (by decide) hr]; omega
  · rw [pos_u (t := 0) hG hS (by decide) (by decide) (by decide) hr]; omega
end OUT
