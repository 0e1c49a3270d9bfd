/-! THE LAW'S FRAME: steps ahead of its loop, the loop on the system's cells. -/
section SIMP
variable {p : Program} {l : Launch} {e : Env} {R : Room} {s : State} {m : MethodId} {args : Array Value} {below : List Frame} {meth : Method} {c : Code} {Q : State → Prop} {cc : ByteArray}
variable {D : va_G} {cA : Nat → ClassId} {en : pN} {b : Nat} {o : Nat → Nat}
theorem psteps_mono {d : Nat} {F : pFn} {tab : List pI} {g : pF} {h' : pH} (hF : sF l D cA b o en msL d F) : ∀ (n : Nat) (f : pF) (h : pH), psteps F en tab n f h = some (g, h') → h.1 ≤ h'.1 ∧ h.2.1 ≤ h'.2.1 := by
  intro n
  induction n with
  | zero => intro f h hs; cases hs; exact ⟨Nat.le_refl _, Nat.le_refl _⟩
  | succ n ih =>
    intro f h hs
    unfold psteps at hs
    split at hs
    · cases hs
    · split at hs
      · rename_i y hy
        have h1 := pstep_mono hF hy
        have h2 := ih _ _ hs
        exact ⟨Nat.le_trans h1.1 h2.1, Nat.le_trans h1.2 h2.2⟩
      · cases hs
theorem s_stepsG {own : String} {init : Bool} {nL : Nat} {tab : List pI} {d c0 n0 : Nat} {F : pFn} {g : pF} {h' : pH} (hF : sF l D cA b o en msL d F) (hms : ∀ M ∈ msL, mOK msL M = true) (hfr : d + 2 ≤ R.frames) (hlo : 40 * (d + 1) + 40 ≤ R.locals)
    (hx : p.tables.exec = Jvm.exec) (hb : c.code = cc) (hml : c.maxLocals = nL) (hts : ∀ w ∈ gT, w.before args s = true) (hown : s.vm.findClass own = some m.cls) (hK : va_K D vwCl (tysL cA) s) (hE : sEnv en b o s s.heap) (hinit : init = true → meth.name = "<init>")
    (gtab : ∀ q ∈ tab, decode cc q.1 = .ok (q.2.1, q.2.2.1) ∧ p_ok nL q.1 q.2.1 q.2.2.1 = true ∧ lnk own init q.2.1 q.2.2.2 = true ∧ lnkC msL own q.2.1 q.2.2.2 = true)
    (hcR : h'.1 - c0 ≤ R.cells) (hnR : h'.2.1 - n0 ≤ R.slots)
    (fin : ∀ (H : Heap) (locs : List Loc) (LS : Array Slot), sRep D cA b o h' H → va_S (fun q => b ≤ q) s.heap H locs → lv_has LS nL (rL b o g.2.1) → W p l e R s m args below meth c H locs (h'.1 - c0) (h'.2.1 - n0) Q (F0 m g.1 LS (rS b o g.2.2))) :
    ∀ (n : Nat) (f : pF) (h : pH) (H : Heap) (locs : List Loc) (LS : Array Slot), psteps F en tab n f h = some (g, h') → c0 ≤ h.1 → n0 ≤ h.2.1 → sRep D cA b o h H → va_S (fun q => b ≤ q) s.heap H locs → lv_has LS nL (rL b o f.2.1) →
      W p l e R s m args below meth c H locs (h.1 - c0) (h.2.1 - n0) Q (F0 m f.1 LS (rS b o f.2.2)) := by
  intro n
  induction n with
  | zero => intro f h H locs LS hs hc0 hn0 hR hS hl; cases hs; exact fin H locs LS hR hS hl
  | succ n ih =>
    intro f h H locs LS hs hc0 hn0 hR hS hl
    unfold psteps at hs
    split at hs
    · cases hs
    · rename_i q hq
      obtain ⟨hdg, hok, hlk, hlkC⟩ := gtab _ (p_find_mem hq)
      dsimp only at hdg hok hlk hlkC
      split at hs
      · rename_i y hy
        have hm1 := pstep_mono hF hy
        have hm2 := psteps_mono hF _ _ _ hs
        obtain ⟨pc, ls, st⟩ := f
        obtain ⟨i, len, x⟩ := q
        obtain ⟨⟨pc', ls', st'⟩, h1⟩ := y
        dsimp only at hdg hok hlk hlkC hy hl hs hm1 hm2 ⊢
        have go : ∀ (H1 : Heap) (locs1 : List Loc) (LS1 : Array Slot), sRep D cA b o h1 H1 → va_S (fun q => b ≤ q) s.heap H1 locs1 → lv_has LS1 nL (rL b o ls') → W p l e R s m args below meth c H1 locs1 (h1.1 - c0) (h1.2.1 - n0) Q (F0 m pc' LS1 (rS b o st')) :=
          fun H1 locs1 LS1 a1 a2 a3 => ih (pc', ls', st') h1 H1 locs1 LS1 hs (Nat.le_trans hc0 hm1.1) (Nat.le_trans hn0 hm1.2) a1 a2 a3
        unfold pstep at hy
        split at hy
        · exact sC hF hms hfr hlo hx hb hml hts hown hK hE hR hS hdg hok hlkC hl hy hc0 hn0 (by omega) (by omega) (fun H1 locs1 a1 a2 a3 => go H1 locs1 LS a1 a2 a3)
        · split at hy
          · exact sH hx hb hts hown hK hE hinit hR hS hdg hok hlk hl hy hc0 hn0 (by omega) (by omega) (fun H1 locs1 a1 a2 a3 => go H1 locs1 LS a1 a2 a3)
          · split at hy
            · rename_i f1 hf1
              cases hy
              exact sL hx hb hdg hok hl hf1 (fun LS' a3 => go H locs LS' hR hS a3)
            · cases hy
      · cases hs
end SIMP
theorem p_ret1 {i : Instr} {st : List Value} (h : p_ret (some .boolean) i st = some (some (.int 1))) : i = .ireturn ∧ st = [.int 1] := by
  unfold p_ret at h
  split at h
  · split at h
    · simp only at h
      split at h
      · simp only [Option.some.injEq, Value.int.injEq] at h
        exact ⟨rfl, by rw [h]⟩
      · cases h
    · cases h
  · split at h <;> simp at h
  · split at h <;> simp at h
  · split at h <;> simp at h
  · cases h
/-- the law's loop on the system's cells ends with true -/
def lawRun (L : Nat) (xs : Nat → Int32) : Prop := ∃ (d : Nat) (τ : qS), d ≤ 1900 ∧ qE (qev (L, xs) (d + 7)) (L, xs) (some .boolean) tb_law (18, [(0, .retAddr 0), (1, .ref 0), (2, .ref 151), (3, .int 0)], []) s0 = some (some (.int 1), τ)
set_option maxHeartbeats 4000000 in
set_option maxRecDepth 100000 in
theorem start_of {p : Program} {e : Env} {s : State} {m : MethodId} {below : List Frame} {meth : Method} {c : Code} (l : Launch) {b L : Nat} {xs : Nat → Int32} (hrun : lawRun L xs) (C0 : lw_At p s m meth c b L xs) : W p l e room_1 s m #[Value.ref b] below meth c s.heap [] 0 0 (lw_Z below #[Value.ref b] s) (entryFrame m ([Value.ref b] : List Value).toArray 4) := by
  obtain ⟨hx, hb, hr, hml, hown, hts, hX, hbl, hlocks, hgv⟩ := C0
  obtain ⟨d, τ, hd, hq⟩ := hrun
  have hgv : ∀ w ∈ nvC, w.before #[Value.ref b] s = true := flat_of_before _ hgv
  obtain ⟨o, ho, hE⟩ := st_env (A := fun q => s.heap.size ≤ q) hts hgv (fun a h => Nat.not_le.mpr h) hX (Nat.not_le.mpr hbl) rfl
  obtain ⟨D, cA, hK⟩ := st_K hts
  have hl := lv_entry ([.ref b]) (n := 4) (Nat.le_of_ble_eq_true rfl)
  rw [lg_entry_eq]
  generalize (lg_sl ([.ref b]) ++ List.replicate (4 - (lg_sl ([.ref b])).length) Slot.unset).toArray = LS at hl ⊢
  have hl : lv_has LS 4 (rL s.heap.size o [(0, .retAddr 0)]) := by
    show lv_has LS 4 [(0, .ref (o 0))]
    rw [ho]
    exact hl
  obtain ⟨n, hn⟩ := qE_run hq
  have hn := qrun_prun (G := pev msL (L, xs) (d + 7)) (fun y as σ τ w h => qev_pev (d + 7) y as σ τ w h) n _ _ _ _ hn
  have hn := prun_sub n 18 [(0, .retAddr 0), (1, .ref 0), (2, .ref 151), (3, .int 0)] [(3, .int 0), (2, .ref 151), (1, .ref 0), (0, .retAddr 0)] [] _ _ (qsubL [3, 2, 1, 0] rfl (ks := [3, 2, 1, 0]) rfl (by decide)) hn
  obtain ⟨k, hk⟩ := law_pre (en := (L, xs)) (d := d)
  have hts' : ∀ w ∈ gT, w.before #[Value.ref b] s = true := fun w hw => hts w (List.mem_filter.mp hw).1
  have K := s_stepsG (R := room_1) (p := p) (l := l) (e := e) (s := s) (m := m) (args := #[Value.ref b]) (below := below) (meth := meth) (c := c) (cc := code) (own := R_law) (init := false) (nL := 4) (tab := tb_law) (d := d + 7) (c0 := 0) (n0 := 0) (F := pev msL (L, xs) (d + 7)) (g := (18, [(3, .int 0), (2, .ref 151), (1, .ref 0), (0, .retAddr 0)], [])) (h' := hpL) (Q := lw_Z below #[Value.ref b] s) (D := D) (cA := cA) (b := s.heap.size) (o := o) (en := (L, xs))
    (sF_pev msL_ok (d + 7)) msL_ok (show d + 7 + 2 ≤ 2048 by omega) (show 40 * (d + 7 + 1) + 40 ≤ 84000 by omega) hx hb hml hts' hown hK hE (fun z => by cases z) (allB law_tab) (show qNC - 0 ≤ 178856 by decide) (show qNS - 0 ≤ 8565682 by decide)
    (fun H locs LS hR hS hl => by
      have hR2 : sRep D cA s.heap.size o (heapOf s0) H := ⟨hR.1, fun j hj => by
        have := hR.2 j hj
        rw [hpq j hj] at this
        exact this⟩
      exact s_runG (R := room_1) (p := p) (l := l) (e := e) (s := s) (m := m) (args := #[Value.ref b]) (below := below) (meth := meth) (c := c) (cc := code) (own := R_law) (init := false) (nL := 4) (ret := some .boolean) (tab := tb_law) (d := d + 7) (c0 := 0) (n0 := 0) (F := pev msL (L, xs) (d + 7)) (r := some (.int 1)) (h' := heapOf τ) (Q := lw_Z below #[Value.ref b] s) (D := D) (cA := cA) (b := s.heap.size) (o := o) (ms := msL) (en := (L, xs))
        (sF_pev msL_ok (d + 7)) msL_ok (show d + 7 + 2 ≤ 2048 by omega) (show 40 * (d + 7 + 1) + 40 ≤ 84000 by omega) hx hb hml hts' hown hK hE (fun z => by cases z) (allB law_tab) (show qNC - 0 ≤ 178856 by decide) (show qNS - 0 ≤ 8565682 by decide)
        (fun pc len i st H locs LS hdg hok hv hR hS => by
          obtain ⟨rfl, rfl⟩ := p_ret1 hv
          obtain rfl : len = 1 := of_decide_eq_true hok
          refine va_forget (fun q hq => hS.2.2 q hq) ?_
          refine W.widen (k := 178856) (n := 8565682) (show qNC - 0 ≤ 178856 by decide) (show qNS - 0 ≤ 8565682 by decide) ?_
          exact lw_ret hx hb hr hlocks hdg)
        n (18, [(3, .int 0), (2, .ref 151), (1, .ref 0), (0, .retAddr 0)], []) (heapOf s0) H locs LS hn (Nat.zero_le _) (Nat.zero_le _) hR2 hS hl)
    k (0, [(0, .retAddr 0)], []) hp_0 s.heap [] LS hk (Nat.zero_le _) (Nat.zero_le _) ⟨rfl, fun j hj => absurd hj (Nat.not_lt_zero _)⟩ va_S.rf hl
  exact K
