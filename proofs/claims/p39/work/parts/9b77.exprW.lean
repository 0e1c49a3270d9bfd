/-! THE READER: an expression on both sides: cells and locals in a law. -/
section EXW
variable {en : pN} {d d' k K q bs u n i i' ct ct' m m' m0 c c' c0 k' nc nl nt a b z dp F p x j d0 : Nat} {lw : Bool} {V cl cl' : Nat → Nat} {U U' : Nat → Nat → Nat} {pl pl' : Nat → Nat} {s s' s'' t t' t'' : qS} {B : Nat → Nat} {O Q M W v w v1 v2 v3 v4 v5 a2 : Int32}
theorem x_89 (hq : q = 7 ∨ q = 61) (h7 : s'.2.2 65 7 = q + 1) (h : qev en (d + 1) 115 [.ref 65, .int (2 : Int32)] s = some (none, s')) (g : qev en (d + 1) 76 [.ref q, .int (2 : Int32), .int (((16 : Int32) + (v2 * (6 : Int32))) + v3)] s' = some (none, s'')) : L_X6_readCellOrLocal_89 en (d + 1) v2 v3 s = some (none, s'') := by
  have hlc : lc q = 4 := by rcases hq with rfl | rfl <;> rfl
  refine le_X6_readCellOrLocal_89 en _ _ _ _ _ ?_
  have e32 : qev en (d + 1) 32 [.int v2, .int v3] s' = some (some (.int (((16 : Int32) + (v2 * (6 : Int32))) + v3)), s') := le_X3_localSlot en _ _ _ _ _ rfl
  rw [h, bV_some, h7, Nat.add_sub_cancel, gd_true ⟨by omega, hlc⟩, nm_eq, e32, bI_some, g, bV_some]
/-- the class, behind the point -/
noncomputable abbrev locB (en : pN) (d : Nat) (v2 : Int32) (s12 : qS) : Option qR := bI (qev en d 88 [.ref 11, .int v2, .long (s12.2.1 1 11)] s12) (fun w14 s15 => if ¬ (s15.1 1 9) = (2 : Int32) then L_X6_readCellOrLocal_89 en d v2 w14 s15 else if (0 : Int32) ≤ w14 then L_X6_readCellOrLocal_89 en d v2 w14 s15 else bV (qev en d 114 [.ref 65, .int (3 : Int32)] s15) (fun s20 => L_X6_readCellOrLocal_89 en d v2 w14 s20))
theorem x_localOf {f : Int64} {e : Nat} (hu : u < 4) (h14 : s.1 14 u = nI e) (he : e ≤ 6) : qev en (d + 2) 88 [.ref 11, .int (nI u), .long f] s = some (some (.int (fnd (fun j => s.2.1 13 (u * 6 + j)) f e 0)), s) := by
  refine le_X5_localOf en _ _ _ _ _ _ ?_
  have e11 : lc 11 = 5 := rfl
  rw [gd_true e11, gd_in (by omega) (by decide), show nI u * (6 : Int32) = nI (u * 6) from n_mr, n_cl (by omega), show s.1 (11 + 3) u = nI e from h14, c_find (a := 11 + 2) rfl (by show u * 6 + e ≤ 24; omega) (by decide), bI_some]
end EXW

