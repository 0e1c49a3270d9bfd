/-! THE READER: if and while on both sides, given the blocks within. -/
/-- blocks that open where b are open are alike -/
abbrev blockOK (en : pN) (d' u : Nat) (B : Nat → Nat) (n : Nat) (V : Nat → Nat) (nc nl nt b F : Nat) : Prop := ∀ (D D2 : Nat) (s t : qS) (U : Nat → Nat → Nat) (cl : Nat → Nat) (i m N : Nat) (th K : Nat → Nat) (bl : Nat → List Nat) (key : Nat) (pa ow pt : Int32), F ≤ D → 12 ≤ D2 → prR u B n s t V U cl nc nl nt i m N th K bl b → keyI u N key th pa ow pt → kyV nt N key → bl key = [] → blkR en (d' + 15) (qev en D 122 [.ref 65, .int (nI (b + 1)), .int pa, .int pt] s) (bV (qev en D2 274 [.ref 151, .int ow, .int pt] t) (fun s => L_X12_readBlocks_0 en (d' + 15) s)) u B n s t V cl nc nl nt m N th K bl b key ow pt
section BLI
variable {en : pN} {d d' k b i i' n N N' j x y r m m' u F p nc nl nt D m0 key key' un : Nat} {V cl cl' cl'' th th' th'' K K' K'' : Nat → Nat} {U U' : Nat → Nat → Nat} {s s' s'' s0 t t' t'' t0 t1 : qS} {B : Nat → Nat} {v w dp pa pt lv ow kk kk' la laM : Int32} {lo : Option Nat} {bl bl' bl'' : Nat → List Nat}
theorem bV_out {α : Type} {x : Option qR} {f : qS → Option α} {z : α} (h : bV x f = some z) : ∃ s, x = some (none, s) ∧ f s = some z := by
  cases x with
  | none => cases h
  | some r =>
    obtain ⟨o, s⟩ := r
    cases o with
    | none => exact ⟨s, rfl, h⟩
    | some q => cases h
theorem G_no (hG : lnG s t nt N K th bl) (hnt : nt ≤ 4) (h4 : 4 ≤ k) (hk : N ≤ (k - 4) / 2) : bl k = [] := by
  obtain ⟨h1, h3, h4', h5, h6⟩ := hG
  cases hb : bl k with
  | nil => rfl
  | cons a L =>
    exfalso
    obtain ⟨a1, a2⟩ := h3 k a (by rw [hb]; exact List.mem_cons_self)
    obtain ⟨⟨g1, -⟩, g2⟩ := h6 a a1
    rcases g2 with ⟨g2, -⟩ | ⟨p, c, g2, g3, g4, -⟩ <;> omega
theorem kw_eq (h : 300 ≤ x) : (nI x - (300 : Int32)) + (3 : Int32) = nI (x - 297) := by
  rw [show nI x - (300 : Int32) = nI (x - 300) from n_sr (by omega), show nI (x - 300) + (3 : Int32) = nI (x - 300 + 3) from n_ar, show x - 300 + 3 = x - 297 by omega]
theorem wkM.dd (h : ddF t t') : wkM t t' := ⟨fun a h1 _ => h.1 a h1, fun j hj => h.2.1 j (fun z => by rw [z] at hj; cases hj), fun a _ _ => by rw [h.2.2], fun j _ => by rw [h.2.2], by rw [h.2.2]⟩
theorem m_276D (h : mtD t F p) (hN : N < 100) : ∃ t', qev en (d + 5) 276 [.ref 151, .int (nI N)] t = some (none, t') ∧ mtD t' F p ∧ wkM t t' := by
  have h0 : mtD (uI t 151 31 (0 : Int32)) F p := mtD_fr h (by rw [rdU, if_neg (by decide)]) rfl
  obtain ⟨t1, e1, e2, e3⟩ := m_deadExp (en := en) (d := d) (k := 0) (pl := fun _ => 0) (v1 := t.1 151 25) (v2 := 0) (v3 := 0) (v4 := 1) (v5 := 0) (by decide) h0 rdW (fun j hj => absurd hj (Nat.not_lt_zero j))
  have e268 : qev en (d + 4) 268 [.ref 151] t = some (some (.int (t.1 151 25)), t1) := le_X12_readExp en _ _ _ (by rw [nm_eq]; exact e1)
  refine ⟨uI (uI t1 176 N (t.1 151 25)) 177 N (t1.1 151 25), le_X12_takeExp en _ _ _ _ ?_, mtD_fr e2 (by rw [uI_ne (by decide), uI_ne (by decide)]) (by rw [uI_ne (by decide), uI_ne (by decide)]), (((wkM.uf (by decide)).tr (wkM.dd e3)).tr (wkM.ui (by decide))).tr (wkM.ui (by decide))⟩
  rw [e268, bI_some, gd_in (by omega) (by decide), n_cl (by omega), nm_eq, uI_ne (show 151 ≠ 176 by decide), nm_eq]
theorem grI_new (hN : key < 4 + 2 * N) (hb5 : bl (5 + 2 * N) = []) (hm : m ≤ m') (hcl : ∀ w, cl w ≤ cl' w) (hs : stkI t t' b N) (h164 : ∀ j, j < N → t'.1 164 j = t.1 164 j) (hX : wkX s s') (hM : wkM t t') : grI s t s' t' cl cl' m m' N (N + 1) th (at1 th N u) K (at1 K N key) bl (at1 bl key (bl key ++ [N])) b key := by
  refine ⟨⟨hm, Nat.le_succ N, hcl, fun p h1 h2 h3 => absurd (by
    have e : p = N := by omega
    rw [e, at1_n (by omega)]
    exact hb5) h3⟩, fun i hi => ⟨at1_n (by omega), at1_n (by omega)⟩, fun k h1 h2 => at1_n h1, fun j hj => ⟨by rw [hs.2.1], by rw [hs.2.2.1], hs.1 j (by omega)⟩, h164, hX, hM⟩
end BLI
