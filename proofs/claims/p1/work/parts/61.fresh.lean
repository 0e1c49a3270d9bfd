/-! ONE CALL ON A FRESH OBJECT: both answer alike. -/
def okA (A : Option qR) : Prop := ∃ τ : qS, A = some (some (.int 1), τ)
theorem okA_le {X Y : Option qR} (h : qle X Y) (g : okA X) : okA Y := by
  obtain ⟨τ, hτ⟩ := g
  exact ⟨τ, h _ hτ⟩
theorem okA_neg {c : Prop} [Decidable c] {X Y : Option qR} (h : ¬ c) (g : okA Y) : okA (if c then X else Y) := by
  rw [if_neg h]
  exact g
theorem okA_if {c : Prop} [Decidable c] {X Y : Option qR} (f : okA X) (g : okA Y) : okA (if c then X else Y) := by
  split
  · exact f
  · exact g
theorem okA_gd {xs : Nat → Int32} {k : Int32} {X : Option qR} (h : p_inB k 6 = true) (g : okA X) : okA (gd (p_inB k ((6, xs) : pN).1 = true) X) := by
  rw [gd_true h]
  exact g
theorem swI_all {α : Type} {P : Option α → Prop} {x : Int} {D : Option α} (hD : P D) : ∀ (as : List (Option α)) (lo : Int), (∀ A ∈ as, P A) → P (swI x lo as D) := by
  intro as
  induction as with
  | nil => intro lo _; exact hD
  | cons A as ih =>
    intro lo h
    unfold swI
    split
    · exact h A List.mem_cons_self
    · exact ih (lo + 1) (fun B hB => h B (List.mem_cons_of_mem _ hB))
theorem law_end {xs : Nat → Int32} {d : Nat} {s : qS} : L_law_18 (6, xs) d ((0 : Int32) + 6) s = some (some (.int 1), s) := le_law_18 (6, xs) d _ s _ (if_pos (show (Int32.ofNat 6 - (6 : Int32)) < (0 : Int32) + 6 by decide))
theorem ok_pair {xs : Nat → Int32} {d : Nat} {w : Int32} {o1 : Option qR} {o2 : qS → Option qR} {σ1 : qS} (h1 : o1 = some (some (.int w), σ1)) (h2 : ∃ σ2 : qS, o2 σ1 = some (some (.int w), σ2)) : okA (bI o1 (fun w s => bI (o2 s) (fun w' s' => if w = w' then L_law_18 (6, xs) d ((0 : Int32) + 6) s' else some (some (.int 0), s')))) := by
  obtain ⟨σ2, h2⟩ := h2
  refine ⟨σ2, ?_⟩
  rw [h1, bI_some, h2, bI_some, if_pos rfl]
  exact law_end
def cV (x : Int) : Int32 := if x = 0 then 0 else if x = 0 + 1 then -2 else if x = 0 + 1 + 1 then 0 else if x = 0 + 1 + 1 + 1 then 0 else if x = 0 + 1 + 1 + 1 + 1 then 0 else if x = 0 + 1 + 1 + 1 + 1 + 1 then 0 else if x = 0 + 1 + 1 + 1 + 1 + 1 + 1 then 0 else if x = 0 + 1 + 1 + 1 + 1 + 1 + 1 + 1 then 0 else -1
theorem swI_cnt {σ : qS} (x : Int) : swI x 0 [some (some (.int 0), σ), some (some (.int (-2)), σ), some (some (.int 0), σ), some (some (.int 0), σ), some (some (.int 0), σ), some (some (.int 0), σ), some (some (.int 0), σ), some (some (.int 0), σ)] (some (some (.int (-1)), σ)) = (some (some (.int (cV x)), σ) : Option qR) := by
  simp only [swI, cV]
  (repeat' split) <;> rfl
section PONE
variable {en : pN} {d : Nat} {a b c e f : Int32}
theorem f_countX : qev en (d + 1) 205 [.ref 0, .int a] s0 = some (some (.int (cV a.toInt)), s0) := by
  refine le_X11_count en d a s0 _ ?_
  rw [show s0.1 65 11 = 0 by decide +kernel, show s0.1 65 12 = -2 by decide +kernel, show s0.1 1 5 = 0 by decide +kernel, show s0.1 0 9 = 0 by decide +kernel]
  simp only [if_true]
  exact swI_cnt _
theorem f_countM : qev en (d + 1) 290 [.ref 151, .int a] s0 = some (some (.int (cV a.toInt)), s0) := by
  refine le_X12_count en d a s0 _ ?_
  rw [show s0.1 151 9 = 0 by decide +kernel, show s0.1 151 10 = -2 by decide +kernel, show s0.1 151 1 = 0 by decide +kernel, show s0.1 151 11 = 0 by decide +kernel]
  simp only [if_true]
  exact swI_cnt _
theorem z09 : s0.1 0 9 = 0 := by decide +kernel
theorem z010 : s0.1 0 10 = 0 := by decide +kernel
theorem z1114 : s0.1 111 4 = 0 := by decide +kernel
theorem z7017 : s0.1 70 17 = 0 := by decide +kernel
theorem z1256 : s0.1 125 6 = 0 := by decide +kernel
theorem z15 : s0.1 1 5 = nI 0 := by decide +kernel
theorem m11 : s0.1 151 11 = 0 := by decide +kernel
theorem m74 : s0.1 151 74 = 0 := by decide +kernel
theorem m98 : s0.1 151 98 = 0 := by decide +kernel
theorem m147 : s0.1 151 147 = 0 := by decide +kernel
theorem m96 : s0.1 151 96 = 0 := by decide +kernel
theorem m1 : s0.1 151 1 = nI 0 := by decide +kernel
end PONE
theorem frS_0 : frS sX s0 := by
  intro a k ha h
  have e : s0.2.2 a k = if a = 65 then (if k = 7 then 62 else 0) else 0 := rfl
  rw [e] at h ⊢
  by_cases h1 : a = 65
  · rw [if_pos h1] at h ⊢
    by_cases h2 : k = 7
    · rw [if_pos h2]
      show 62 - 1 < 151
      decide
    · rw [if_neg h2] at h
      exact absurd rfl h
  · rw [if_neg h1] at h
    exact absurd rfl h
/-- a call of the class leaves the model's cells -/
theorem f_keep {en : pN} {d y : Nat} {as : List Value} {τ : qS} {w : Option Value} (h : qev en d y as s0 = some (w, τ)) (ha : frT sX as) {k : Nat} : τ.1 151 k = s0.1 151 k := by
  obtain ⟨⟨-, h2⟩, -⟩ := fr_ev frC_X d y as s0 τ w h ha frS_0
  rw [(h2 151 (by show ¬ 151 < 151; decide)).1]
theorem f_767 {xs : Nat → Int32} {d : Nat} {z b : Int32} : okA (L_law_767 (6, xs) (d + 12) 0 (-1) z b s0) := by
  refine okA_le (le_law_767 (6, xs) (d + 12) 0 (-1) z b s0) ?_
  rw [rM_explore m11, bI_some, if_pos rfl]
  exact ⟨_, law_end⟩
theorem f_745 {xs : Nat → Int32} {d : Nat} {z b : Int32} : okA (L_law_745 (6, xs) (d + 12) 0 z b s0) := by
  refine okA_le (le_law_745 (6, xs) (d + 12) 0 z b s0) ?_
  rw [rX_explore z09, bI_some]
  exact okA_gd (by decide) (okA_gd (by decide) (okA_if f_767 f_767))
set_option maxHeartbeats 4000000 in
set_option maxRecDepth 100000 in
theorem f_six {xs : Nat → Int32} {d : Nat} : okA (L_law_18 (6, xs) (d + 12) 0 s0) := by
  refine okA_le (le_law_18 (6, xs) (d + 12) 0 s0) ?_
  refine okA_neg (show ¬ (Int32.ofNat 6 - (6 : Int32)) < 0 by decide) (okA_gd (by decide) (swI_all ⟨_, law_end⟩ _ _ ?_))
  refine List.forall_mem_cons.mpr ⟨?_, List.forall_mem_cons.mpr ⟨?_, List.forall_mem_cons.mpr ⟨?_, List.forall_mem_cons.mpr ⟨?_, List.forall_mem_cons.mpr ⟨?_, List.forall_mem_cons.mpr ⟨?_, List.forall_mem_cons.mpr ⟨?_, List.forall_mem_cons.mpr ⟨?_, List.forall_mem_cons.mpr ⟨?_, List.forall_mem_cons.mpr ⟨?_, List.forall_mem_cons.mpr ⟨?_, List.forall_mem_cons.mpr ⟨?_, List.forall_mem_cons.mpr ⟨?_, List.forall_mem_cons.mpr ⟨?_, List.forall_mem_cons.mpr ⟨?_, List.forall_mem_cons.mpr ⟨?_, List.forall_mem_cons.mpr ⟨?_, List.forall_mem_cons.mpr ⟨?_, List.forall_mem_cons.mpr ⟨?_, List.forall_mem_cons.mpr ⟨?_, List.forall_mem_cons.mpr ⟨?_, List.forall_mem_cons.mpr ⟨?_, List.forall_mem_cons.mpr ⟨?_, List.forall_mem_cons.mpr ⟨?_, List.forall_mem_cons.mpr ⟨?_, List.forall_mem_cons.mpr ⟨?_, List.forall_mem_cons.mpr ⟨?_, List.forall_mem_cons.mpr ⟨?_, List.forall_mem_cons.mpr ⟨?_, List.forall_mem_cons.mpr ⟨?_, List.forall_mem_cons.mpr ⟨?_, List.forall_mem_cons.mpr ⟨?_, List.forall_mem_cons.mpr ⟨?_, List.forall_mem_cons.mpr ⟨?_, List.forall_mem_cons.mpr ⟨?_, List.forall_mem_cons.mpr ⟨?_, fun _ h => absurd h List.not_mem_nil⟩⟩⟩⟩⟩⟩⟩⟩⟩⟩⟩⟩⟩⟩⟩⟩⟩⟩⟩⟩⟩⟩⟩⟩⟩⟩⟩⟩⟩⟩⟩⟩⟩⟩⟩⟩
  · refine okA_gd (by decide) (okA_gd (by decide) (okA_gd (by decide) (okA_gd (by decide) (okA_gd (by decide) ?_))))
    refine ok_pair (w := nI (0 + 20)) ((c_feedX (n := 0) z15 (by decide)).trans (congrArg some (if_pos (by decide)))) ?_
    obtain ⟨τ, h1, -⟩ := c_feedM (en := (6, xs)) (d := d + 11) (n := 0) (a := xs ((0 : Int32) + 1).toNatClampNeg) (b := xs ((0 : Int32) + 2).toNatClampNeg) (c := xs ((0 : Int32) + 3).toNatClampNeg) (e := xs ((0 : Int32) + 4).toNatClampNeg) (f := xs ((0 : Int32) + 5).toNatClampNeg) (σ := fdS s0 0 (xs ((0 : Int32) + 1).toNatClampNeg) (xs ((0 : Int32) + 2).toNatClampNeg) (xs ((0 : Int32) + 3).toNatClampNeg) (xs ((0 : Int32) + 4).toNatClampNeg) (xs ((0 : Int32) + 5).toNatClampNeg)) (by
      unfold fdS
      simp only [apS_I]
      exact m1) (by decide)
    rw [if_pos (by decide)] at h1
    exact ⟨τ, h1⟩
  · exact okA_gd (by decide) (ok_pair ((c_endX (n := 0) z15 (by decide)).trans (congrArg some (if_pos (Or.inr (Or.inr (by decide)))))) ⟨_, (c_endM (n := 0) m1 (by decide)).trans (congrArg some (if_pos (Or.inr (Or.inr (by decide)))))⟩)
  · obtain ⟨τ, h1⟩ := e_programX (en := (6, xs)) (d := d + 6) (σ := s0) z15
    have hk : τ.1 151 1 = 0 := (f_keep h1 (frT.cons (show (0 : Nat) < 151 by decide) (fun _ h => by cases h))).trans m1
    exact ok_pair h1 (e_programM (en := (6, xs)) (d := d + 7) (σ := τ) hk)
  · exact okA_gd (by decide) (ok_pair f_countX ⟨_, f_countM⟩)
  · exact okA_gd (by decide) (okA_gd (by decide) (ok_pair (rX_line z09) ⟨_, rM_line m11⟩))
  · exact okA_gd (by decide) (ok_pair (rX_begin z09) ⟨_, rM_begin m11⟩)
  · exact okA_gd (by decide) (ok_pair (rX_ready z1114) ⟨_, rM_ready m74⟩)
  · exact okA_gd (by decide) (okA_gd (by decide) (ok_pair (rX_turn z1114) ⟨_, rM_turn m74⟩))
  · exact okA_gd (by decide) (okA_gd (by decide) (ok_pair (rX_thread z1114) ⟨_, rM_thread m74⟩))
  · exact okA_gd (by decide) (okA_gd (by decide) (ok_pair (rX_local z1114) ⟨_, rM_local m74⟩))
  · exact okA_gd (by decide) (ok_pair (rX_cell z1114) ⟨_, rM_cell m74⟩)
  · exact okA_gd (by decide) (okA_gd (by decide) (ok_pair (rX_seen z1114) ⟨_, rM_seen m74⟩))
  · exact okA_gd (by decide) (okA_gd (by decide) (ok_pair (rX_held z1114) ⟨_, rM_held m74⟩))
  · exact okA_gd (by decide) (okA_gd (by decide) (ok_pair (rX_step z1114) ⟨_, rM_step m74⟩))
  · exact okA_gd (by decide) (okA_gd (by decide) (ok_pair (rX_before z1114) ⟨_, rM_before m74⟩))
  · exact okA_gd (by decide) (okA_gd (by decide) (ok_pair (rX_runRace z1114) ⟨_, rM_runRace m74⟩))
  · exact okA_gd (by decide) (ok_pair (rX_linear z1114) ⟨_, rM_linear m74⟩)
  · exact okA_gd (by decide) (ok_pair (rX_ordered z1256) ⟨_, rM_ordered m96⟩)
  · exact okA_gd (by decide) (okA_gd (by decide) (okA_if f_745 f_745))
  · exact okA_gd (by decide) (ok_pair (rX_explored z7017) ⟨_, rM_explored m98⟩)
  · exact okA_gd (by decide) (okA_gd (by decide) (ok_pair (rX_outcome z7017) ⟨_, rM_outcome m98⟩))
  · exact okA_gd (by decide) (okA_gd (by decide) (ok_pair (rX_outcomeCell z7017) ⟨_, rM_outcomeCell m98⟩))
  · exact okA_gd (by decide) (okA_gd (by decide) (okA_gd (by decide) (ok_pair (rX_outcomeLocal z7017) ⟨_, rM_outcomeLocal m98⟩)))
  · exact okA_gd (by decide) (okA_gd (by decide) (ok_pair (rX_schedule z7017) ⟨_, rM_schedule m98⟩))
  · exact okA_gd (by decide) (ok_pair (rX_replay z7017) ⟨_, rM_replay m98⟩)
  · exact okA_gd (by decide) (okA_gd (by decide) (okA_gd (by decide) (ok_pair (rX_chances z7017) ⟨_, rM_chances m98⟩)))
  · exact okA_gd (by decide) (okA_gd (by decide) (ok_pair (rX_race z7017) ⟨_, rM_race m98⟩))
  · exact okA_gd (by decide) (ok_pair (rX_guard z7017) ⟨_, rM_guard m98⟩)
  · exact okA_gd (by decide) (ok_pair (rX_ring z7017) ⟨_, rM_ring m98⟩)
  · exact okA_gd (by decide) (okA_gd (by decide) (ok_pair (rX_order z7017) ⟨_, rM_order m98⟩))
  · exact ok_pair (rX_judge z7017) ⟨_, rM_judge m98⟩
  · exact ok_pair (w := -2) (c_whereX.trans rfl) ⟨_, c_whereM.trans rfl⟩
  · exact okA_gd (by decide) (okA_gd (by decide) (ok_pair (rX_rewrite z09) ⟨_, rM_rewrite m11⟩))
  · exact ok_pair (rX_drop z010) ⟨_, rM_drop m147⟩
  · exact okA_gd (by decide) (ok_pair (rX_sound z010) ⟨_, rM_sound m147⟩)
  · exact ok_pair (w := -2) (c_gainedX.trans rfl) ⟨_, c_gainedM.trans rfl⟩
/-- what the law does on a script of at most six ints -/
theorem law_six {L : Nat} {xs : Nat → Int32} (hL : L ≤ 6) : okA (L_law_18 (L, xs) (8 + 12) 0 s0) := by
  rcases Nat.lt_or_ge L 6 with h | h
  · refine okA_le (le_law_18 (L, xs) (8 + 12) 0 s0) ⟨s0, if_pos ?_⟩
    show Int32.ofNat L - (6 : Int32) < 0
    match L, h with
    | 0, _ => decide
    | 1, _ => decide
    | 2, _ => decide
    | 3, _ => decide
    | 4, _ => decide
    | 5, _ => decide
    | k + 6, h => exact absurd h (by omega)
  · obtain rfl : L = 6 := by omega
    exact f_six
