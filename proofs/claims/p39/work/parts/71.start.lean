/-! THE START: what the Statement gives is the small machine's surroundings (sEnv, va_K); the claim out of one run of the small machine (start_of). -/
def nvC : List Cond := flatC (Jvm.Cond.and given_1 narrow_1)
theorem st_ty {args : Array Value} {s : State} {ty : FieldType} (h : (Cond.arrayClass ty).before args s = true) : ∃ cA : ClassId, ArrOfT s cA ty ∧ s.vm.findClass ("[" ++ ty.toString) = some cA := by
  obtain ⟨c, k, comp, h1, h2, h3⟩ := Cond.arrayClass_spec (args := args) (first := s) (o := none) (s := s) (idx := []) h
  exact ⟨c, fun n z => ⟨fun k h => (by cases h), k, h2, comp, h3⟩, h1⟩
theorem st_tyA {s : State} (h : (Cond.arrayOver (.array .int)).before #[] s = true) : ∃ cA : ClassId, ArrOfT s cA (.array .int) ∧ s.vm.findClass ("[" ++ (FieldType.array .int).toString) = some cA := by
  obtain ⟨comp, c, k, -, -, h3, h4, h5⟩ := aoB_spec h
  exact ⟨c, fun n z => ⟨fun k h => (by cases h), k, h3, comp, h4⟩, h5⟩
theorem st_ao {args : Array Value} {s : State} (h : (Cond.arrayOver (.array .int)).before args s = true) : (Cond.arrayOver (.array .int)).before #[] s = true := by
  first
    | exact h
    | (simp only [Cond.before, Cond.holds, Cond.value] at h ⊢; exact h)
    | (unfold Cond.before Cond.holds at h ⊢; simp only [Cond.value] at h ⊢; exact h)
section START
variable {args : Array Value} {s : State} {A : Nat → Prop}
theorem st_Z0 (hts : ∀ w ∈ lw_tbl, w.before args s = true) (hgv : ∀ w ∈ nvC, w.before args s = true) (hA : ∀ a : Nat, a < s.heap.size → ¬ A a) : va_Z "java/lang/String" "COMPACT_STRINGS" "Z" (.int 1) A s s.heap := va_Zof (hts _ (List.mem_of_getElem? (i := 140) (by decide +kernel))) (hts _ (List.mem_of_getElem? (i := 95) (by decide +kernel))) (va_eqi (hgv _ (List.mem_of_getElem? (i := 4) (by decide +kernel)))) hA
theorem st_Z1 (hts : ∀ w ∈ lw_tbl, w.before args s = true) (hgv : ∀ w ∈ nvC, w.before args s = true) (hA : ∀ a : Nat, a < s.heap.size → ¬ A a) : va_Zq "jdk/internal/util/Preconditions" "SIOOBE_FORMATTER" "Ljava/util/function/BiFunction;" A s s.heap := va_Zqof (hts _ (List.mem_of_getElem? (i := 156) (by decide +kernel))) (hts _ (List.mem_of_getElem? (i := 97) (by decide +kernel))) (hgv _ (List.mem_of_getElem? (i := 5) (by decide +kernel))) hA
def st_tm (i : Nat) : Term := .string (stOwn i) (stIdx i)
theorem st_el (hts : ∀ w ∈ lw_tbl, w.before args s = true) (hgv : ∀ w ∈ nvC, w.before args s = true) (hA : ∀ a : Nat, a < s.heap.size → ¬ A a) : ∀ (e : Nat) (bs : List Int32) (k : Nat), (bs.length ≤ 300 ∧ (List.range bs.length).all (fun j => decide (nvC[k + j]? = some (Cond.eq (.elem (.field (st_tm e) "java/lang/String" "value" "[B") (.int (Int32.ofNat j))) (.int (bs.getD j 0))))) = true) → ∀ j : Nat, j < bs.length → (Cond.eq (.elem (.field (st_tm e) "java/lang/String" "value" "[B") (.int (Int32.ofNat j))) (.int (bs.getD j 0))).before args s = true := by
  intro e bs k h j hj
  have h1 := List.all_eq_true.mp h.2 j (List.mem_range.mpr hj)
  exact hgv _ (List.mem_of_getElem? (of_decide_eq_true h1))
set_option maxRecDepth 100000 in
theorem st_b0 : (stBy 0).length ≤ 300 ∧ (List.range (stBy 0).length).all (fun j => decide (nvC[13 + j]? = some (Cond.eq (.elem (.field (st_tm 0) "java/lang/String" "value" "[B") (.int (Int32.ofNat j))) (.int ((stBy 0).getD j 0))))) = true := by decide +kernel
set_option maxRecDepth 100000 in
theorem st_b1 : (stBy 1).length ≤ 300 ∧ (List.range (stBy 1).length).all (fun j => decide (nvC[202 + j]? = some (Cond.eq (.elem (.field (st_tm 1) "java/lang/String" "value" "[B") (.int (Int32.ofNat j))) (.int ((stBy 1).getD j 0))))) = true := by decide +kernel
set_option maxRecDepth 100000 in
theorem st_b2 : (stBy 2).length ≤ 300 ∧ (List.range (stBy 2).length).all (fun j => decide (nvC[239 + j]? = some (Cond.eq (.elem (.field (st_tm 2) "java/lang/String" "value" "[B") (.int (Int32.ofNat j))) (.int ((stBy 2).getD j 0))))) = true := by decide +kernel
set_option maxRecDepth 100000 in
set_option maxHeartbeats 4000000 in
theorem st_S (hts : ∀ w ∈ lw_tbl, w.before args s = true) (hgv : ∀ w ∈ nvC, w.before args s = true) (hA : ∀ a : Nat, a < s.heap.size → ¬ A a) : ∃ adK adV : Nat → Nat, vk_S 3 [185, 32, 16] [stBy 0, stBy 1, stBy 2] adK adV A s s.heap ∧ ∀ i : Nat, i < 3 → (st_tm i).eval args s none [] s = some (.ref (adK i)) := by
  refine vk_Sof (tm := st_tm) (N := 3) (fun i hi => by
    match i, hi with
    | 0, _ => exact Nat.le_of_ble_eq_true rfl
    | 1, _ => exact Nat.le_of_ble_eq_true rfl
    | 2, _ => exact Nat.le_of_ble_eq_true rfl) (fun i hi => by
    match i, hi with
    | 0, _ => exact (hgv _ (List.mem_of_getElem? (i := 9) (by decide +kernel)))
    | 1, _ => exact (hgv _ (List.mem_of_getElem? (i := 198) (by decide +kernel)))
    | 2, _ => exact (hgv _ (List.mem_of_getElem? (i := 235) (by decide +kernel)))) (fun i hi => by
    match i, hi with
    | 0, _ => exact (hgv _ (List.mem_of_getElem? (i := 10) (by decide +kernel)))
    | 1, _ => exact (hgv _ (List.mem_of_getElem? (i := 199) (by decide +kernel)))
    | 2, _ => exact (hgv _ (List.mem_of_getElem? (i := 236) (by decide +kernel)))) (fun i hi => by
    match i, hi with
    | 0, _ => exact (hgv _ (List.mem_of_getElem? (i := 11) (by decide +kernel)))
    | 1, _ => exact (hgv _ (List.mem_of_getElem? (i := 200) (by decide +kernel)))
    | 2, _ => exact (hgv _ (List.mem_of_getElem? (i := 237) (by decide +kernel)))) (fun i hi => by
    match i, hi with
    | 0, _ => exact (hgv _ (List.mem_of_getElem? (i := 12) (by decide +kernel)))
    | 1, _ => exact (hgv _ (List.mem_of_getElem? (i := 201) (by decide +kernel)))
    | 2, _ => exact (hgv _ (List.mem_of_getElem? (i := 238) (by decide +kernel)))) (fun i hi j hj => by
    match i, hi with
    | 0, _ => exact st_el hts hgv hA 0 (stBy 0) 13 st_b0 j hj
    | 1, _ => exact st_el hts hgv hA 1 (stBy 1) 202 st_b1 j hj
    | 2, _ => exact st_el hts hgv hA 2 (stBy 2) 239 st_b2 j hj) (fun i j hi hj hij => by
    match i, j, hi, hj, hij with
    | 0, 0, _, _, q => exact absurd rfl q
    | 0, 1, _, _, _ => exact Or.inl (hgv _ (List.mem_of_getElem? (i := 234) (by decide +kernel)))
    | 0, 2, _, _, _ => exact Or.inl (hgv _ (List.mem_of_getElem? (i := 255) (by decide +kernel)))
    | 1, 0, _, _, _ => exact Or.inr (hgv _ (List.mem_of_getElem? (i := 234) (by decide +kernel)))
    | 1, 1, _, _, q => exact absurd rfl q
    | 1, 2, _, _, _ => exact Or.inl (hgv _ (List.mem_of_getElem? (i := 256) (by decide +kernel)))
    | 2, 0, _, _, _ => exact Or.inr (hgv _ (List.mem_of_getElem? (i := 255) (by decide +kernel)))
    | 2, 1, _, _, _ => exact Or.inr (hgv _ (List.mem_of_getElem? (i := 256) (by decide +kernel)))
    | 2, 2, _, _, q => exact absurd rfl q) hA
theorem st_X {b L : Nat} {xs : Nat → Int32} (hX : va_X b L xs s s.heap) (hA : ¬ A b) : va_T .int b L (fun j => .int (xs j)) A s s.heap := by
  obtain ⟨scr, h1, h2, h3, h4, h5⟩ := hX
  exact ⟨scr, h1, h2, h3, Nat.le_of_eq h4.symm, by rw [h4], h5, hA⟩
set_option maxRecDepth 100000 in
set_option maxHeartbeats 4000000 in
theorem st_env (hts : ∀ w ∈ lw_tbl, w.before args s = true) (hgv : ∀ w ∈ nvC, w.before args s = true) (hA : ∀ a : Nat, a < s.heap.size → ¬ A a) {b L : Nat} {xs : Nat → Int32} (hX : va_X b L xs s s.heap) (hb : ¬ A b) (hAe : A = fun q => s.heap.size ≤ q) : ∃ o : Nat → Nat, o 0 = b ∧ sEnv (L, xs) s.heap.size o s s.heap := by
  obtain ⟨adK, adV, ⟨hS, -⟩, hE⟩ := st_S hts hgv hA
  obtain ⟨q9, h9⟩ : ∃ q9 : Nat, va_Z "jdk/internal/util/Preconditions" "SIOOBE_FORMATTER" "Ljava/util/function/BiFunction;" (if q9 = 0 then .null else .ref (q9 - 1)) A s s.heap := by
    rcases st_Z1 hts hgv hA with h | ⟨t, h⟩
    · exact ⟨0, h⟩
    · exact ⟨t + 1, h⟩
  subst hAe
  refine ⟨fun i => match i with
    | 0 => b
    | 1 => adK 0
    | 2 => adK 1
    | 3 => adK 2
    | 4 => adV 0
    | 5 => adV 1
    | 6 => adV 2
    | _ => q9, rfl, ?_, ?_, ?_, ?_, st_ao (hts _ (List.mem_of_getElem? (i := 255) (by decide +kernel)))⟩
  · intro i t n f hi
    match i, hi with
    | 0, hi => cases hi; exact st_X hX hb
    | 1, hi => cases hi
    | 2, hi => cases hi
    | 3, hi => cases hi
    | 4, hi => cases hi; exact (hS 0 (by decide)).2.2.2
    | 5, hi => cases hi; exact (hS 1 (by decide)).2.2.2
    | 6, hi => cases hi; exact (hS 2 (by decide)).2.2.2
    | n + 7, hi => cases hi
  · intro i hi
    match i, hi with
    | 0, _ => exact ⟨(hS 0 (by decide)).1, (hS 0 (by decide)).2.1, (hS 0 (by decide)).2.2.1, vk_R.of (hts _ (List.mem_of_getElem? (i := 127) (by decide +kernel))) (hE 0 (by decide))⟩
    | 1, _ => exact ⟨(hS 1 (by decide)).1, (hS 1 (by decide)).2.1, (hS 1 (by decide)).2.2.1, vk_R.of (hts _ (List.mem_of_getElem? (i := 338) (by decide +kernel))) (hE 1 (by decide))⟩
    | 2, _ => exact ⟨(hS 2 (by decide)).1, (hS 2 (by decide)).2.1, (hS 2 (by decide)).2.2.1, vk_R.of (hts _ (List.mem_of_getElem? (i := 1335) (by decide +kernel))) (hE 2 (by decide))⟩
  · have hF := h9
    exact List.forall_mem_cons.mpr ⟨st_Z0 hts hgv hA, List.forall_mem_cons.mpr ⟨hF, fun _ h => absurd h List.not_mem_nil⟩⟩
  · exact List.forall_mem_cons.mpr ⟨va_Nw.of rfl (hts _ (List.mem_of_getElem? (i := 123) (by decide +kernel))), List.forall_mem_cons.mpr ⟨va_Nw.of rfl (hts _ (List.mem_of_getElem? (i := 388) (by decide +kernel))), List.forall_mem_cons.mpr ⟨va_Nw.of rfl (hts _ (List.mem_of_getElem? (i := 394) (by decide +kernel))), List.forall_mem_cons.mpr ⟨va_Nw.of rfl (hts _ (List.mem_of_getElem? (i := 456) (by decide +kernel))), List.forall_mem_cons.mpr ⟨va_Nw.of rfl (hts _ (List.mem_of_getElem? (i := 636) (by decide +kernel))), List.forall_mem_cons.mpr ⟨va_Nw.of rfl (hts _ (List.mem_of_getElem? (i := 641) (by decide +kernel))), List.forall_mem_cons.mpr ⟨va_Nw.of rfl (hts _ (List.mem_of_getElem? (i := 664) (by decide +kernel))), fun _ h => absurd h List.not_mem_nil⟩⟩⟩⟩⟩⟩⟩
set_option maxHeartbeats 4000000 in
theorem st_K (hts : ∀ w ∈ lw_tbl, w.before args s = true) : ∃ (D : va_G) (cA : Nat → ClassId), va_K D vwCl (tysL cA) s := by
  obtain ⟨c0, iS0, hKn0⟩ := u_known (C := RX0) (T := TX0) (N := 7) (n := 7) hts inX0 (hts _ (List.mem_of_getElem? (i := 455) (by decide +kernel)))
  obtain ⟨c1, iS1, hKn1⟩ := u_known (C := RX1) (T := TX1) (N := 11) (n := 11) hts inX1 (hts _ (List.mem_of_getElem? (i := 663) (by decide +kernel)))
  obtain ⟨c2, iS2, hKn2⟩ := u_known (C := RX2) (T := TX2) (N := 14) (n := 14) hts inX2 (hts _ (List.mem_of_getElem? (i := 591) (by decide +kernel)))
  obtain ⟨c3, iS3, hKn3⟩ := u_known (C := RX3) (T := TX3) (N := 13) (n := 13) hts inX3 (hts _ (List.mem_of_getElem? (i := 393) (by decide +kernel)))
  obtain ⟨c4, iS4, hKn4⟩ := u_known (C := RX4) (T := TX4) (N := 5) (n := 5) hts inX4 (hts _ (List.mem_of_getElem? (i := 224) (by decide +kernel)))
  obtain ⟨c5, iS5, hKn5⟩ := u_known (C := RX5) (T := TX5) (N := 14) (n := 14) hts inX5 (hts _ (List.mem_of_getElem? (i := 249) (by decide +kernel)))
  obtain ⟨c6, iS6, hKn6⟩ := u_known (C := RX6) (T := TX6) (N := 15) (n := 15) hts inX6 (hts _ (List.mem_of_getElem? (i := 333) (by decide +kernel)))
  obtain ⟨c7, iS7, hKn7⟩ := u_known (C := RX7) (T := TX7) (N := 6) (n := 6) hts inX7 (hts _ (List.mem_of_getElem? (i := 483) (by decide +kernel)))
  obtain ⟨c8, iS8, hKn8⟩ := u_known (C := RX8) (T := TX8) (N := 5) (n := 5) hts inX8 (hts _ (List.mem_of_getElem? (i := 635) (by decide +kernel)))
  obtain ⟨c9, iS9, hKn9⟩ := u_known (C := RX9) (T := TX9) (N := 12) (n := 12) hts inX9 (hts _ (List.mem_of_getElem? (i := 122) (by decide +kernel)))
  obtain ⟨c10, iS10, hKn10⟩ := u_known (C := RX10) (T := TX10) (N := 20) (n := 20) hts inX10 (hts _ (List.mem_of_getElem? (i := 387) (by decide +kernel)))
  obtain ⟨c11, iS11, hKn11⟩ := u_known (C := RX11) (T := TX11) (N := 15) (n := 15) hts inX11 (hts _ (List.mem_of_getElem? (i := 114) (by decide +kernel)))
  obtain ⟨a0, hr0⟩ := st_ty (s := s) (ty := .int) (hts _ (List.mem_of_getElem? (i := 222) (by decide +kernel)))
  obtain ⟨a1, hr1⟩ := st_ty (s := s) (ty := .long) (hts _ (List.mem_of_getElem? (i := 221) (by decide +kernel)))
  obtain ⟨a2, hr2⟩ := st_ty (s := s) (ty := .byte) (hts _ (List.mem_of_getElem? (i := 220) (by decide +kernel)))
  obtain ⟨a3, hr3⟩ := st_ty (s := s) (ty := .byte) (hts _ (List.mem_of_getElem? (i := 220) (by decide +kernel)))
  obtain ⟨a4, hr4⟩ := st_tyA (s := s) (st_ao (hts _ (List.mem_of_getElem? (i := 255) (by decide +kernel))))
  refine ⟨(fun k => match k with
    | 0 => c0
    | 1 => c1
    | 2 => c2
    | 3 => c3
    | 4 => c4
    | 5 => c5
    | 6 => c6
    | 7 => c7
    | 8 => c8
    | 9 => c9
    | 10 => c10
    | _ => c11, fun k => match k with
    | 0 => iS0
    | 1 => iS1
    | 2 => iS2
    | 3 => iS3
    | 4 => iS4
    | 5 => iS5
    | 6 => iS6
    | 7 => iS7
    | 8 => iS8
    | 9 => iS9
    | 10 => iS10
    | _ => iS11), fun k => match k with
    | 0 => a0
    | 1 => a1
    | 2 => a2
    | 3 => a3
    | _ => a4, ?_, ?_⟩
  · intro k q hq
    match k, hq with
    | 0, hq => cases hq; exact hKn0
    | 1, hq => cases hq; exact hKn1
    | 2, hq => cases hq; exact hKn2
    | 3, hq => cases hq; exact hKn3
    | 4, hq => cases hq; exact hKn4
    | 5, hq => cases hq; exact hKn5
    | 6, hq => cases hq; exact hKn6
    | 7, hq => cases hq; exact hKn7
    | 8, hq => cases hq; exact hKn8
    | 9, hq => cases hq; exact hKn9
    | 10, hq => cases hq; exact hKn10
    | 11, hq => cases hq; exact hKn11
    | k + 12, hq => simp [vwCl] at hq
  · intro k q hq
    match k, hq with
    | 0, hq => cases hq; exact hr0
    | 1, hq => cases hq; exact hr1
    | 2, hq => cases hq; exact hr2
    | 3, hq => cases hq; exact hr3
    | 4, hq => cases hq; exact hr4
    | k + 5, hq => simp [tysL] at hq
end START
