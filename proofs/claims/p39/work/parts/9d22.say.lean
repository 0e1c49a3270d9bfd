/-! THE TEXTS OF THE LAW'S PROGRAMS: how they are fed (printed by program out of the law's text). -/
/-- the text so far, as a list -/
abbrev TL (s : qS) (L : List Nat) : Prop := TX s L.length (fun i => L.getD i 0)
/-- what feeding leaves as it is -/
abbrev frT0 (s s' : qS) : Prop := (∀ c, c ≠ 1 → c ≠ 2 → s'.1 c = s.1 c) ∧ (∀ j, j ≠ 5 → s'.1 1 j = s.1 1 j) ∧ s'.2 = s.2
theorem frT0.rf {s : qS} : frT0 s s := ⟨fun _ _ _ => rfl, fun _ _ => rfl, rfl⟩
theorem frT0.tr {s s' s'' : qS} (h : frT0 s s') (g : frT0 s' s'') : frT0 s s'' := ⟨fun c a b => (g.1 c a b).trans (h.1 c a b), fun j a => (g.2.1 j a).trans (h.2.1 j a), g.2.2.trans h.2.2⟩
/-- the sixteen bytes of two numbers begin with F -/
def sayOK (a b : Int64) (F : List Nat) : Bool := decide (F.length ≤ 16) && (List.range F.length).all (fun i => decide (F.getD i 0 < 256) && decide ((vM (a >>> ((32 : Int32).toInt64 &&& 63)).toInt32 a.toInt32 (b >>> ((32 : Int32).toInt64 &&& 63)).toInt32 b.toInt32 0 i >>> (((24 : Int32) - ((8 : Int32) * (nI i - nI i / (4 : Int32) * (4 : Int32)))) &&& 31)).toInt8.toInt32 = sx (F.getD i 0)))
section SAY
variable {en : pN} {d k m : Nat} {s : qS} {L F : List Nat} {a b : Int64} {x : Int32}
theorem getD_app1 {i : Nat} (h : i < L.length) : (L ++ F).getD i 0 = L.getD i 0 := by
  rw [List.getD_eq_getElem?_getD, List.getElem?_append_left h, List.getD_eq_getElem?_getD]
theorem getD_app2 {i : Nat} (h : L.length ≤ i) : (L ++ F).getD i 0 = F.getD (i - L.length) 0 := by
  rw [List.getD_eq_getElem?_getD, List.getElem?_append_right h, List.getD_eq_getElem?_getD]
theorem x_say (hT : TL s L) (hL : L.length ≤ 3900) (hF : sayOK a b F = true) (hk : F.length = k) : ∃ (v : Int32) (s' : qS), qev en (d + 3) 439 [.ref 0, .long a, .long b, .int (nI k)] s = some (some (.int v), s') ∧ TL s' (L ++ F) ∧ frT0 s s' := by
  subst hk
  obtain ⟨f1, f2⟩ := (Bool.and_eq_true _ _).mp hF
  have f1 := of_decide_eq_true f1
  have f3 : ∀ i, i < F.length → F.getD i 0 < 256 ∧ (vM (a >>> ((32 : Int32).toInt64 &&& 63)).toInt32 a.toInt32 (b >>> ((32 : Int32).toInt64 &&& 63)).toInt32 b.toInt32 0 i >>> (((24 : Int32) - ((8 : Int32) * (nI i - nI i / (4 : Int32) * (4 : Int32)))) &&& 31)).toInt8.toInt32 = sx (F.getD i 0) := by
    intro i hi
    obtain ⟨z1, z2⟩ := (Bool.and_eq_true _ _).mp (List.all_eq_true.mp f2 i (List.mem_range.mpr hi))
    exact ⟨of_decide_eq_true z1, of_decide_eq_true z2⟩
  have e1 := c_feedX (en := en) (d := d) (a := (a >>> ((32 : Int32).toInt64 &&& 63)).toInt32) (b := a.toInt32) (c := (b >>> ((32 : Int32).toInt64 &&& 63)).toInt32) (e := b.toInt32) (f := 0) hT.1 (by omega)
  rw [if_pos (by omega)] at e1
  generalize hS : fdS s L.length (a >>> ((32 : Int32).toInt64 &&& 63)).toInt32 a.toInt32 (b >>> ((32 : Int32).toInt64 &&& 63)).toInt32 b.toInt32 0 = S at e1
  have S2 : S.2 = s.2 := by rw [← hS]; exact fd_2
  have Sl : S.1 1 5 = nI (L.length + 20) := by rw [← hS]; exact fd_len
  have So : ∀ c, c ≠ 1 → c ≠ 2 → S.1 c = s.1 c := fun c c1 c2 => by rw [← hS]; exact fd_o c1 c2
  have S1 : ∀ j, j ≠ 5 → S.1 1 j = s.1 1 j := by
    intro j hj
    rw [← hS]
    unfold fdS
    simp only [apS_I]
    rw [if_neg (fun z => hj z.2), if_neg (fun z => absurd z.1 (by decide)), if_neg (fun z => absurd z.1 (by decide)), if_neg (fun z => absurd z.1 (by decide)), if_neg (fun z => absurd z.1 (by decide)), if_neg (fun z => hj z.2), if_neg (fun z => absurd z.1 (by decide)), if_neg (fun z => absurd z.1 (by decide)), if_neg (fun z => absurd z.1 (by decide)), if_neg (fun z => absurd z.1 (by decide)), if_neg (fun z => hj z.2), if_neg (fun z => absurd z.1 (by decide)), if_neg (fun z => absurd z.1 (by decide)), if_neg (fun z => absurd z.1 (by decide)), if_neg (fun z => absurd z.1 (by decide)), if_neg (fun z => hj z.2), if_neg (fun z => absurd z.1 (by decide)), if_neg (fun z => absurd z.1 (by decide)), if_neg (fun z => absurd z.1 (by decide)), if_neg (fun z => absurd z.1 (by decide)), if_neg (fun z => hj z.2), if_neg (fun z => absurd z.1 (by decide)), if_neg (fun z => absurd z.1 (by decide)), if_neg (fun z => absurd z.1 (by decide)), if_neg (fun z => absurd z.1 (by decide))]
  have e2 := c_endX (en := en) (d := d + 1) (a := nI F.length) Sl (by omega)
  have e3 : nI (L.length + 20) - ((20 : Int32) - nI F.length) = nI (L.length + F.length) := by
    rw [show (20 : Int32) = nI 20 from rfl, nI_sub (by omega), nI_sub (by omega)]
    congr 1
    omega
  rw [if_neg (by
    intro z
    rcases z with z | z | z
    · exact nI_pos (by omega) z
    · rw [show (20 : Int32) = nI 20 from rfl] at z
      exact nI_nlt (by omega) (by omega) z
    · omega), e3] at e2
  refine ⟨nI (L.length + F.length), uI S 1 5 (nI (L.length + F.length)), le_L_say en (d + 2) a b (nI F.length) s _ ?_, ?_, ?_⟩
  · rw [e1, bI_some, e2, bI_some]
  · refine ⟨?_, ?_, ?_, ?_⟩
    · rw [List.length_append]
      rw [g_I, if_pos ⟨rfl, rfl⟩]
    · rw [List.length_append]; omega
    · intro i hi
      rw [List.length_append] at hi
      show (L ++ F).getD i 0 < 256
      rcases Nat.lt_or_ge i L.length with q | q
      · rw [getD_app1 q]; exact hT.2.2.1 i q
      · rw [getD_app2 q]; exact (f3 _ (by omega)).1
    · intro i hi
      rw [List.length_append] at hi
      have e4 : (uI S 1 5 (nI (L.length + F.length))).1 2 i = S.1 2 i := by rw [g_I, if_neg (fun z => absurd z.1 (by decide))]
      show (uI S 1 5 (nI (L.length + F.length))).1 2 i = sx ((L ++ F).getD i 0)
      rw [e4, ← hS]
      rcases Nat.lt_or_ge i L.length with q | q
      · rw [getD_app1 q, fd_lo q]; exact hT.2.2.2 i q
      · rw [getD_app2 q]
        have := fd_hi (s := s) (n := L.length) (a1 := (a >>> ((32 : Int32).toInt64 &&& 63)).toInt32) (a2 := a.toInt32) (a3 := (b >>> ((32 : Int32).toInt64 &&& 63)).toInt32) (a4 := b.toInt32) (a5 := 0) (i := i - L.length) (by omega)
        rw [show L.length + (i - L.length) = i by omega] at this
        rw [this]
        exact (f3 _ (by omega)).2
  · refine ⟨fun c c1 c2 => ?_, fun j hj => ?_, S2⟩
    · show (uI S 1 5 _).1 c = s.1 c
      rw [uI_ne c1]; exact So c c1 c2
    · rw [g_I, if_neg (fun z => hj z.2)]; exact S1 j hj
end SAY
/-- the sixteen statements -/
def FRL : List (List Nat) := [[120, 32, 61, 32, 49, 59], [112, 32, 61, 32, 120, 59], [121, 32, 61, 32, 112, 59], [113, 32, 61, 32, 121, 59], [108, 111, 99, 107, 32, 97, 59, 32, 120, 32, 61, 32, 112, 59, 32, 117, 110, 108, 111, 99, 107, 32, 97, 59], [97, 100, 100, 32, 120, 44, 32, 49, 32, 105, 110, 116, 111, 32, 113, 59], [99, 97, 115, 32, 121, 44, 32, 48, 44, 32, 51, 32, 105, 110, 116, 111, 32, 112, 59], [102, 101, 110, 99, 101, 59], [105, 102, 32, 112, 32, 123, 32, 121, 32, 61, 32, 50, 59, 32, 125, 32, 101, 108, 115, 101, 32, 123, 32, 113, 32, 61, 32, 53, 59, 32, 125], [112, 32, 61, 32, 112, 32, 43, 32, 49, 59], [122, 32, 61, 32, 113, 59], [113, 32, 61, 32, 122, 59], [108, 111, 99, 107, 32, 98, 59, 32, 113, 32, 61, 32, 120, 59, 32, 117, 110, 108, 111, 99, 107, 32, 98, 59], [97, 115, 115, 101, 114, 116, 32, 113, 32, 60, 32, 57, 59], [121, 32, 61, 32, 55, 59], [108, 111, 99, 107, 32, 97, 59, 32, 108, 111, 99, 107, 32, 98, 59, 32, 117, 110, 108, 111, 99, 107, 32, 98, 59, 32, 117, 110, 108, 111, 99, 107, 32, 97, 59]]
def FR (m : Nat) : List Nat := FRL.getD m []
theorem sw_k {α : Type} {as : List (Option α)} {D A r : Option α} (z : Nat) (h : as[z]? = some A) (hA : A = r) : swI (z : Int) 0 as D = r := by
  have hl : z < as.length := by
    rcases Nat.lt_or_ge z as.length with q | q
    · exact q
    · rw [List.getElem?_eq_none q] at h; cases h
  have := swI_nth (D := D) as z 0 (Nat.zero_le z) (by omega)
  rw [Nat.sub_zero, h] at this
  exact this.trans hA
section STM
variable {en : pN} {d k m : Nat} {s : qS} {L F : List Nat} {x : Int32}
theorem x_stm_0 (hx : x &&& (15 : Int32) = nI 0) (hT : TL s L) (hL : L.length ≤ 3800) : ∃ (v : Int32) (s' : qS), qev en (d + 4) 440 [.ref 0, .int x] s = some (some (.int v), s') ∧ TL s' (L ++ FR 0) ∧ frT0 s s' := by
  have l0 : L.length ≤ 3900 := by omega
  obtain ⟨v0, s0, e0, t0, f0⟩ := x_say (en := en) (d := d) (a := 8655985692280291328) (b := 0) (F := [120, 32, 61, 32, 49, 59]) (k := 6) hT l0 (by decide +kernel) rfl
  refine ⟨v0, s0, le_L_statement en (d + 3) x s _ ?_, ?_, ?_⟩
  · rw [hx, show (nI 0).toInt = ((0 : Nat) : Int) from by decide]
    refine sw_k 0 rfl ?_
    exact (congrArg (fun z => bI z _) e0).trans (bI_some.trans rfl)
  · exact t0
  · exact f0
theorem x_stm_1 (hx : x &&& (15 : Int32) = nI 1) (hT : TL s L) (hL : L.length ≤ 3800) : ∃ (v : Int32) (s' : qS), qev en (d + 4) 440 [.ref 0, .int x] s = some (some (.int v), s') ∧ TL s' (L ++ FR 1) ∧ frT0 s s' := by
  have l0 : L.length ≤ 3900 := by omega
  obtain ⟨v0, s0, e0, t0, f0⟩ := x_say (en := en) (d := d) (a := 8079524941168050176) (b := 0) (F := [112, 32, 61, 32, 120, 59]) (k := 6) hT l0 (by decide +kernel) rfl
  refine ⟨v0, s0, le_L_statement en (d + 3) x s _ ?_, ?_, ?_⟩
  · rw [hx, show (nI 1).toInt = ((1 : Nat) : Int) from by decide]
    refine sw_k 1 rfl ?_
    exact (congrArg (fun z => bI z _) e0).trans (bI_some.trans rfl)
  · exact t0
  · exact f0
theorem x_stm_2 (hx : x &&& (15 : Int32) = nI 2) (hT : TL s L) (hL : L.length ≤ 3800) : ∃ (v : Int32) (s' : qS), qev en (d + 4) 440 [.ref 0, .int x] s = some (some (.int v), s') ∧ TL s' (L ++ FR 2) ∧ frT0 s s' := by
  have l0 : L.length ≤ 3900 := by omega
  obtain ⟨v0, s0, e0, t0, f0⟩ := x_say (en := en) (d := d) (a := 8728043287375183872) (b := 0) (F := [121, 32, 61, 32, 112, 59]) (k := 6) hT l0 (by decide +kernel) rfl
  refine ⟨v0, s0, le_L_statement en (d + 3) x s _ ?_, ?_, ?_⟩
  · rw [hx, show (nI 2).toInt = ((2 : Nat) : Int) from by decide]
    refine sw_k 2 rfl ?_
    exact (congrArg (fun z => bI z _) e0).trans (bI_some.trans rfl)
  · exact t0
  · exact f0
theorem x_stm_3 (hx : x &&& (15 : Int32) = nI 3) (hT : TL s L) (hL : L.length ≤ 3800) : ∃ (v : Int32) (s' : qS), qev en (d + 4) 440 [.ref 0, .int x] s = some (some (.int v), s') ∧ TL s' (L ++ FR 3) ∧ frT0 s s' := by
  have l0 : L.length ≤ 3900 := by omega
  obtain ⟨v0, s0, e0, t0, f0⟩ := x_say (en := en) (d := d) (a := 8151582535222755328) (b := 0) (F := [113, 32, 61, 32, 121, 59]) (k := 6) hT l0 (by decide +kernel) rfl
  refine ⟨v0, s0, le_L_statement en (d + 3) x s _ ?_, ?_, ?_⟩
  · rw [hx, show (nI 3).toInt = ((3 : Nat) : Int) from by decide]
    refine sw_k 3 rfl ?_
    exact (congrArg (fun z => bI z _) e0).trans (bI_some.trans rfl)
  · exact t0
  · exact f0
theorem x_stm_4 (hx : x &&& (15 : Int32) = nI 4) (hT : TL s L) (hL : L.length ≤ 3800) : ∃ (v : Int32) (s' : qS), qev en (d + 4) 440 [.ref 0, .int x] s = some (some (.int v), s') ∧ TL s' (L ++ FR 4) ∧ frT0 s s' := by
  have l0 : L.length ≤ 3900 := by omega
  obtain ⟨v0, s0, e0, t0, f0⟩ := x_say (en := en) (d := d) (a := 7813573190266993440) (b := 8655985693337264245) (F := [108, 111, 99, 107, 32, 97, 59, 32, 120, 32, 61, 32, 112, 59, 32, 117]) (k := 16) hT l0 (by decide +kernel) rfl
  obtain ⟨v1, s1, e1, t1, f1⟩ := x_say (en := en) (d := d) (a := 7956857114446553403) (b := 0) (F := [110, 108, 111, 99, 107, 32, 97, 59]) (k := 8) t0 (by rw [List.length_append]; show L.length + 16 ≤ 3900; omega) (by decide +kernel) rfl
  refine ⟨v1, s1, le_L_statement en (d + 3) x s _ ?_, ?_, ?_⟩
  · rw [hx, show (nI 4).toInt = ((4 : Nat) : Int) from by decide]
    refine sw_k 4 rfl ?_
    exact (congrArg (fun z => bI z _) e0).trans (bI_some.trans ((congrArg (fun z => bI z _) e1).trans (bI_some.trans rfl)))
  · rw [List.append_assoc] at t1; exact t1
  · exact f0.tr f1
theorem x_stm_5 (hx : x &&& (15 : Int32) = nI 5) (hT : TL s L) (hL : L.length ≤ 3800) : ∃ (v : Int32) (s' : qS), qev en (d + 4) 440 [.ref 0, .int x] s = some (some (.int v), s') ∧ TL s' (L ++ FR 5) ∧ frT0 s s' := by
  have l0 : L.length ≤ 3900 := by omega
  obtain ⟨v0, s0, e0, t0, f0⟩ := x_say (en := en) (d := d) (a := 7017844209967964209) (b := 2335519328127971643) (F := [97, 100, 100, 32, 120, 44, 32, 49, 32, 105, 110, 116, 111, 32, 113, 59]) (k := 16) hT l0 (by decide +kernel) rfl
  refine ⟨v0, s0, le_L_statement en (d + 3) x s _ ?_, ?_, ?_⟩
  · rw [hx, show (nI 5).toInt = ((5 : Nat) : Int) from by decide]
    refine sw_k 5 rfl ?_
    exact (congrArg (fun z => bI z _) e0).trans (bI_some.trans rfl)
  · exact t0
  · exact f0
theorem x_stm_6 (hx : x &&& (15 : Int32) = nI 6) (hT : TL s L) (hL : L.length ≤ 3800) : ∃ (v : Int32) (s' : qS), qev en (d + 4) 440 [.ref 0, .int x] s = some (some (.int v), s') ∧ TL s' (L ++ FR 6) ∧ frT0 s s' := by
  have l0 : L.length ≤ 3900 := by omega
  obtain ⟨v0, s0, e0, t0, f0⟩ := x_say (en := en) (d := d) (a := 7161131465804881968) (b := 3179597551224386671) (F := [99, 97, 115, 32, 121, 44, 32, 48, 44, 32, 51, 32, 105, 110, 116, 111]) (k := 16) hT l0 (by decide +kernel) rfl
  obtain ⟨v1, s1, e1, t1, f1⟩ := x_say (en := en) (d := d) (a := 2337433077791326208) (b := 0) (F := [32, 112, 59]) (k := 3) t0 (by rw [List.length_append]; show L.length + 16 ≤ 3900; omega) (by decide +kernel) rfl
  refine ⟨v1, s1, le_L_statement en (d + 3) x s _ ?_, ?_, ?_⟩
  · rw [hx, show (nI 6).toInt = ((6 : Nat) : Int) from by decide]
    refine sw_k 6 rfl ?_
    exact (congrArg (fun z => bI z _) e0).trans (bI_some.trans ((congrArg (fun z => bI z _) e1).trans (bI_some.trans rfl)))
  · rw [List.append_assoc] at t1; exact t1
  · exact f0.tr f1
theorem x_stm_7 (hx : x &&& (15 : Int32) = nI 7) (hT : TL s L) (hL : L.length ≤ 3800) : ∃ (v : Int32) (s' : qS), qev en (d + 4) 440 [.ref 0, .int x] s = some (some (.int v), s') ∧ TL s' (L ++ FR 7) ∧ frT0 s s' := by
  have l0 : L.length ≤ 3900 := by omega
  obtain ⟨v0, s0, e0, t0, f0⟩ := x_say (en := en) (d := d) (a := 7378424937695608832) (b := 0) (F := [102, 101, 110, 99, 101, 59]) (k := 6) hT l0 (by decide +kernel) rfl
  refine ⟨v0, s0, le_L_statement en (d + 3) x s _ ?_, ?_, ?_⟩
  · rw [hx, show (nI 7).toInt = ((7 : Nat) : Int) from by decide]
    refine sw_k 7 rfl ?_
    exact (congrArg (fun z => bI z _) e0).trans (bI_some.trans rfl)
  · exact t0
  · exact f0
theorem x_stm_8 (hx : x &&& (15 : Int32) = nI 8) (hT : TL s L) (hL : L.length ≤ 3800) : ∃ (v : Int32) (s' : qS), qev en (d + 4) 440 [.ref 0, .int x] s = some (some (.int v), s') ∧ TL s' (L ++ FR 8) ∧ frT0 s s' := by
  have l0 : L.length ≤ 3900 := by omega
  obtain ⟨v0, s0, e0, t0, f0⟩ := x_say (en := en) (d := d) (a := 7594793487560286329) (b := 2323048382905482528) (F := [105, 102, 32, 112, 32, 123, 32, 121, 32, 61, 32, 50, 59, 32, 125, 32]) (k := 16) hT l0 (by decide +kernel) rfl
  obtain ⟨v1, s1, e1, t1, f1⟩ := x_say (en := en) (d := d) (a := 7308343173489303665) (b := 2323048395790384384) (F := [101, 108, 115, 101, 32, 123, 32, 113, 32, 61, 32, 53, 59, 32, 125]) (k := 15) t0 (by rw [List.length_append]; show L.length + 16 ≤ 3900; omega) (by decide +kernel) rfl
  refine ⟨v1, s1, le_L_statement en (d + 3) x s _ ?_, ?_, ?_⟩
  · rw [hx, show (nI 8).toInt = ((8 : Nat) : Int) from by decide]
    refine sw_k 8 rfl ?_
    exact (congrArg (fun z => bI z _) e0).trans (bI_some.trans ((congrArg (fun z => bI z _) e1).trans (bI_some.trans rfl)))
  · rw [List.append_assoc] at t1; exact t1
  · exact f0.tr f1
theorem x_stm_9 (hx : x &&& (15 : Int32) = nI 9) (hT : TL s L) (hL : L.length ≤ 3800) : ∃ (v : Int32) (s' : qS), qev en (d + 4) 440 [.ref 0, .int x] s = some (some (.int v), s') ∧ TL s' (L ++ FR 9) ∧ frT0 s s' := by
  have l0 : L.length ≤ 3900 := by omega
  obtain ⟨v0, s0, e0, t0, f0⟩ := x_say (en := en) (d := d) (a := 8079524941032074016) (b := 3547429131484397568) (F := [112, 32, 61, 32, 112, 32, 43, 32, 49, 59]) (k := 10) hT l0 (by decide +kernel) rfl
  refine ⟨v0, s0, le_L_statement en (d + 3) x s _ ?_, ?_, ?_⟩
  · rw [hx, show (nI 9).toInt = ((9 : Nat) : Int) from by decide]
    refine sw_k 9 rfl ?_
    exact (congrArg (fun z => bI z _) e0).trans (bI_some.trans rfl)
  · exact t0
  · exact f0
theorem x_stm_10 (hx : x &&& (15 : Int32) = nI 10) (hT : TL s L) (hL : L.length ≤ 3800) : ∃ (v : Int32) (s' : qS), qev en (d + 4) 440 [.ref 0, .int x] s = some (some (.int v), s') ∧ TL s' (L ++ FR 10) ∧ frT0 s s' := by
  have l0 : L.length ≤ 3900 := by omega
  obtain ⟨v0, s0, e0, t0, f0⟩ := x_say (en := en) (d := d) (a := 8800100881429889024) (b := 0) (F := [122, 32, 61, 32, 113, 59]) (k := 6) hT l0 (by decide +kernel) rfl
  refine ⟨v0, s0, le_L_statement en (d + 3) x s _ ?_, ?_, ?_⟩
  · rw [hx, show (nI 10).toInt = ((10 : Nat) : Int) from by decide]
    refine sw_k 10 rfl ?_
    exact (congrArg (fun z => bI z _) e0).trans (bI_some.trans rfl)
  · exact t0
  · exact f0
theorem x_stm_11 (hx : x &&& (15 : Int32) = nI 11) (hT : TL s L) (hL : L.length ≤ 3800) : ∃ (v : Int32) (s' : qS), qev en (d + 4) 440 [.ref 0, .int x] s = some (some (.int v), s') ∧ TL s' (L ++ FR 11) ∧ frT0 s s' := by
  have l0 : L.length ≤ 3900 := by omega
  obtain ⟨v0, s0, e0, t0, f0⟩ := x_say (en := en) (d := d) (a := 8151582535239532544) (b := 0) (F := [113, 32, 61, 32, 122, 59]) (k := 6) hT l0 (by decide +kernel) rfl
  refine ⟨v0, s0, le_L_statement en (d + 3) x s _ ?_, ?_, ?_⟩
  · rw [hx, show (nI 11).toInt = ((11 : Nat) : Int) from by decide]
    refine sw_k 11 rfl ?_
    exact (congrArg (fun z => bI z _) e0).trans (bI_some.trans rfl)
  · exact t0
  · exact f0
theorem x_stm_12 (hx : x &&& (15 : Int32) = nI 12) (hT : TL s L) (hL : L.length ≤ 3800) : ∃ (v : Int32) (s' : qS), qev en (d + 4) 440 [.ref 0, .int x] s = some (some (.int v), s') ∧ TL s' (L ++ FR 12) ∧ frT0 s s' := by
  have l0 : L.length ≤ 3900 := by omega
  obtain ⟨v0, s0, e0, t0, f0⟩ := x_say (en := en) (d := d) (a := 7813573190267058976) (b := 8151582535205986421) (F := [108, 111, 99, 107, 32, 98, 59, 32, 113, 32, 61, 32, 120, 59, 32, 117]) (k := 16) hT l0 (by decide +kernel) rfl
  obtain ⟨v1, s1, e1, t1, f1⟩ := x_say (en := en) (d := d) (a := 7956857114446553659) (b := 0) (F := [110, 108, 111, 99, 107, 32, 98, 59]) (k := 8) t0 (by rw [List.length_append]; show L.length + 16 ≤ 3900; omega) (by decide +kernel) rfl
  refine ⟨v1, s1, le_L_statement en (d + 3) x s _ ?_, ?_, ?_⟩
  · rw [hx, show (nI 12).toInt = ((12 : Nat) : Int) from by decide]
    refine sw_k 12 rfl ?_
    exact (congrArg (fun z => bI z _) e0).trans (bI_some.trans ((congrArg (fun z => bI z _) e1).trans (bI_some.trans rfl)))
  · rw [List.append_assoc] at t1; exact t1
  · exact f0.tr f1
theorem x_stm_13 (hx : x &&& (15 : Int32) = nI 13) (hT : TL s L) (hL : L.length ≤ 3800) : ∃ (v : Int32) (s' : qS), qev en (d + 4) 440 [.ref 0, .int x] s = some (some (.int v), s') ∧ TL s' (L ++ FR 13) ∧ frT0 s s' := by
  have l0 : L.length ≤ 3900 := by omega
  obtain ⟨v0, s0, e0, t0, f0⟩ := x_say (en := en) (d := d) (a := 7022083123549839473) (b := 2322766937991413760) (F := [97, 115, 115, 101, 114, 116, 32, 113, 32, 60, 32, 57, 59]) (k := 13) hT l0 (by decide +kernel) rfl
  refine ⟨v0, s0, le_L_statement en (d + 3) x s _ ?_, ?_, ?_⟩
  · rw [hx, show (nI 13).toInt = ((13 : Nat) : Int) from by decide]
    refine sw_k 13 rfl ?_
    exact (congrArg (fun z => bI z _) e0).trans (bI_some.trans rfl)
  · exact t0
  · exact f0
theorem x_stm_14 (hx : x &&& (15 : Int32) = nI 14) (hT : TL s L) (hL : L.length ≤ 3800) : ∃ (v : Int32) (s' : qS), qev en (d + 4) 440 [.ref 0, .int x] s = some (some (.int v), s') ∧ TL s' (L ++ FR 14) ∧ frT0 s s' := by
  have l0 : L.length ≤ 3900 := by omega
  obtain ⟨v0, s0, e0, t0, f0⟩ := x_say (en := en) (d := d) (a := 8728043286418882560) (b := 0) (F := [121, 32, 61, 32, 55, 59]) (k := 6) hT l0 (by decide +kernel) rfl
  refine ⟨v0, s0, le_L_statement en (d + 3) x s _ ?_, ?_, ?_⟩
  · rw [hx, show (nI 14).toInt = ((14 : Nat) : Int) from by decide]
    refine sw_k 14 rfl ?_
    exact (congrArg (fun z => bI z _) e0).trans (bI_some.trans rfl)
  · exact t0
  · exact f0
theorem x_stm_15 (hx : x &&& (15 : Int32) = nI 15) (hT : TL s L) (hL : L.length ≤ 3800) : ∃ (v : Int32) (s' : qS), qev en (d + 4) 440 [.ref 0, .int x] s = some (some (.int v), s') ∧ TL s' (L ++ FR 15) ∧ frT0 s s' := by
  have l0 : L.length ≤ 3900 := by omega
  obtain ⟨v0, s0, e0, t0, f0⟩ := x_say (en := en) (d := d) (a := 7813573190266993440) (b := 7813573190267058976) (F := [108, 111, 99, 107, 32, 97, 59, 32, 108, 111, 99, 107, 32, 98, 59, 32]) (k := 16) hT l0 (by decide +kernel) rfl
  obtain ⟨v1, s1, e1, t1, f1⟩ := x_say (en := en) (d := d) (a := 8461819975540875362) (b := 4260534364618580843) (F := [117, 110, 108, 111, 99, 107, 32, 98, 59, 32, 117, 110, 108, 111, 99, 107]) (k := 16) t0 (by rw [List.length_append]; show L.length + 16 ≤ 3900; omega) (by decide +kernel) rfl
  obtain ⟨v2, s2, e2, t2, f2⟩ := x_say (en := en) (d := d) (a := 2333210953140666368) (b := 0) (F := [32, 97, 59]) (k := 3) t1 (by rw [List.length_append, List.length_append]; show L.length + 16 + 16 ≤ 3900; omega) (by decide +kernel) rfl
  refine ⟨v2, s2, le_L_statement en (d + 3) x s _ ?_, ?_, ?_⟩
  · rw [hx, show (nI 15).toInt = ((15 : Nat) : Int) from by decide]
    refine Eq.trans (swI_far _ 15 0 (Or.inr ?_)) ?_
    · exact Nat.le_refl 15
    exact (congrArg (fun z => bI z _) e0).trans (bI_some.trans ((congrArg (fun z => bI z _) e1).trans (bI_some.trans ((congrArg (fun z => bI z _) e2).trans (bI_some.trans rfl)))))
  · rw [List.append_assoc, List.append_assoc] at t2; exact t2
  · exact f0.tr (f1.tr f2)
theorem x_stm (hm : m < 16) (hx : x &&& (15 : Int32) = nI m) (hT : TL s L) (hL : L.length ≤ 3800) : ∃ (v : Int32) (s' : qS), qev en (d + 4) 440 [.ref 0, .int x] s = some (some (.int v), s') ∧ TL s' (L ++ FR m) ∧ frT0 s s' := by
  match m, hm with
  | 0, _ => exact x_stm_0 hx hT hL
  | 1, _ => exact x_stm_1 hx hT hL
  | 2, _ => exact x_stm_2 hx hT hL
  | 3, _ => exact x_stm_3 hx hT hL
  | 4, _ => exact x_stm_4 hx hT hL
  | 5, _ => exact x_stm_5 hx hT hL
  | 6, _ => exact x_stm_6 hx hT hL
  | 7, _ => exact x_stm_7 hx hT hL
  | 8, _ => exact x_stm_8 hx hT hL
  | 9, _ => exact x_stm_9 hx hT hL
  | 10, _ => exact x_stm_10 hx hT hL
  | 11, _ => exact x_stm_11 hx hT hL
  | 12, _ => exact x_stm_12 hx hT hL
  | 13, _ => exact x_stm_13 hx hT hL
  | 14, _ => exact x_stm_14 hx hT hL
  | 15, _ => exact x_stm_15 hx hT hL
  | m + 16, hm => exact absurd hm (by omega)
end STM
def HDL : List Nat := [99, 101, 108, 108, 32, 120, 59, 32, 99, 101, 108, 108, 32, 121, 59, 32, 99, 101, 108, 108, 32, 122, 32, 118, 111, 108, 97, 116, 105, 108, 101, 59, 32, 108, 111, 99, 107, 32, 97, 59, 32, 108, 111, 99, 107, 32, 98, 59, 32, 116, 104, 114, 101, 97, 100, 32, 116, 32, 123, 32]
def MDL : List Nat := [125, 32, 116, 104, 114, 101, 97, 100, 32, 117, 32, 123, 32]
/-- a cell of the script, as the law reads it -/
def ceS (en : pN) (k : Nat) : Int32 := if k < en.1 then en.2 k else nI (173 * k + 37)
def nyb (x : Int32) : Nat := (x &&& (15 : Int32)).toNatClampNeg
def TXT (en : pN) : List Nat := HDL ++ (FR (nyb (ceS en 1)) ++ (FR (nyb (ceS en 2)) ++ (MDL ++ (FR (nyb (ceS en 3 >>> ((4 : Int32) &&& 31))) ++ (FR (nyb (ceS en 4 >>> ((4 : Int32) &&& 31))) ++ [125])))))
section TEL
variable {en : pN} {d k m : Nat} {s : qS} {L F : List Nat} {x : Int32}
theorem nyb_is : nyb x < 16 ∧ x &&& (15 : Int32) = nI (nyb x) := by
  have e : (x &&& (15 : Int32)) = nI ((x &&& (15 : Int32)).toBitVec.toNat) := by
    rw [← Int32.toBitVec_inj]
    apply BitVec.eq_of_toNat_eq
    show _ = (BitVec.ofNat 32 _).toNat
    rw [BitVec.toNat_ofNat]
    exact (Nat.mod_eq_of_lt (x &&& (15 : Int32)).toBitVec.isLt).symm
  have hl : (x &&& (15 : Int32)).toBitVec.toNat < 16 := by
    rw [Int32.toBitVec_and, BitVec.toNat_and]
    exact Nat.lt_of_le_of_lt Nat.and_le_right (by decide)
  obtain ⟨M, hM, hl⟩ : ∃ M, x &&& (15 : Int32) = nI M ∧ M < 16 := ⟨_, e, hl⟩
  unfold nyb
  rw [hM, n_cl (by omega)]
  exact ⟨hl, rfl⟩
theorem x_cell (hk : k < 100) (hn : en.1 < 2 ^ 31) : qev en (d + 1) 438 [.retAddr 0, .int (nI k)] s = some (some (.int (ceS en k)), s) := by
  refine le_L_cell en d (nI k) s _ ?_
  have e1 : ((Int32.ofNat en.1 : Int32) ≤ nI k) = (en.1 ≤ k) := n_LE hn (by omega)
  unfold ceS
  by_cases c : k < en.1
  · rw [if_neg (by rw [e1]; omega), if_pos c, gd_true (inB_nI c hn), n_cl (by omega)]
  · rw [if_pos (by rw [e1]; omega), if_neg c, show (173 : Int32) = nI 173 from rfl, show (37 : Int32) = nI 37 from rfl, show nI 173 * nI k = nI (173 * k) from n_mul, nI_add]
end TEL
