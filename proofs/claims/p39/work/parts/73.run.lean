/-- a run of the small machine through the law that ends with true -/
def lawRun (L : Nat) (xs : Nat → Int32) : Prop := ∃ (d n : Nat) (h' : pH), d ≤ 2000 ∧ prun msL (pev msL (L, xs) d) (L, xs) (some .boolean) tb_law n (0, [(0, .retAddr 0)], []) (0, 0, fun _ => .inr (0, [])) = some (some (.int 1), h') ∧ h'.1 ≤ 600000 ∧ h'.2.1 ≤ 7302250
theorem p_ret1 {i : Instr} {st : List Value} (h : p_ret (some .boolean) i st = some (some (.int 1))) : i = .ireturn ∧ st = [.int 1] := by
  unfold p_ret at h
  split at h
  · split at h
    · simp only at h
      split at h
      · simp only [Option.some.injEq, Value.int.injEq] at h
        exact ⟨rfl, by rw [h]⟩
      · cases h
    · cases h
  · split at h <;> simp at h
  · split at h <;> simp at h
  · split at h <;> simp at h
  · cases h
set_option maxHeartbeats 4000000 in
set_option maxRecDepth 100000 in
theorem start_of {p : Program} {e : Env} {s : State} {m : MethodId} {below : List Frame} {meth : Method} {c : Code} (l : Launch) {b L : Nat} {xs : Nat → Int32} (hrun : lawRun L xs) (C0 : lw_At p s m meth c b L xs) : W p l e room_1 s m #[Value.ref b] below meth c s.heap [] 0 0 (lw_Z below #[Value.ref b] s) (entryFrame m ([Value.ref b] : List Value).toArray 18) := by
  obtain ⟨hx, hb, hr, hml, hown, hts, hX, hbl, hlocks, hgv⟩ := C0
  obtain ⟨d, n, h', hd, hs, hc, hn⟩ := hrun
  have hgv : ∀ w ∈ nvC, w.before #[Value.ref b] s = true := flat_of_before _ hgv
  obtain ⟨o, ho, hE⟩ := st_env (A := fun q => s.heap.size ≤ q) hts hgv (fun a h => Nat.not_le.mpr h) hX (Nat.not_le.mpr hbl) rfl
  obtain ⟨D, cA, hK⟩ := st_K hts
  have hl := lv_entry ([.ref b]) (n := 18) (Nat.le_of_ble_eq_true rfl)
  rw [lg_entry_eq]
  generalize (lg_sl ([.ref b]) ++ List.replicate (18 - (lg_sl ([.ref b])).length) Slot.unset).toArray = LS at hl ⊢
  have hl : lv_has LS 18 (rL s.heap.size o [(0, .retAddr 0)]) := by
    show lv_has LS 18 [(0, .ref (o 0))]
    rw [ho]
    exact hl
  have K := s_runG (R := room_1) (p := p) (l := l) (e := e) (s := s) (m := m) (args := #[Value.ref b]) (below := below) (meth := meth) (c := c) (cc := code) (own := R_law) (init := false) (nL := 18) (ret := some .boolean) (tab := tb_law) (d := d) (c0 := 0) (n0 := 0) (F := pev msL (L, xs) d) (r := some (.int 1)) (h' := h') (Q := lw_Z below #[Value.ref b] s) (D := D) (cA := cA) (b := s.heap.size) (o := o) (ms := msL) (en := (L, xs))
    (sF_pev msL_ok d) msL_ok (show d + 2 ≤ 2048 by omega) (show 40 * (d + 1) + 40 ≤ 84000 by omega) hx hb hml (fun w hw => hts w (List.mem_filter.mp hw).1) hown hK hE (fun z => by cases z) (allB law_tab) (show h'.1 - 0 ≤ 600000 by omega) (show h'.2.1 - 0 ≤ 7302250 by omega)
    (fun pc len i st H locs LS hdg hok hv hR hS => by
      obtain ⟨rfl, rfl⟩ := p_ret1 hv
      obtain rfl : len = 1 := of_decide_eq_true hok
      refine va_forget (fun q hq => hS.2.2 q hq) ?_
      refine W.widen (k := 600000) (n := 7302250) (by omega) (by omega) ?_
      exact lw_ret hx hb hr hlocks hdg)
    n (0, [(0, .retAddr 0)], []) (0, 0, fun _ => .inr (0, [])) s.heap [] LS hs (Nat.zero_le _) (Nat.zero_le _) ⟨rfl, fun j hj => absurd hj (Nat.not_lt_zero _)⟩ va_S.rf hl
  exact K
