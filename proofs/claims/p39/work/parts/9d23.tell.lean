/-! THE TEXTS OF THE LAW'S PROGRAMS: told up to program(); their tokens. -/
section TLL
variable {en : pN} {d k m : Nat} {s : qS} {L F : List Nat} {x : Int32}
theorem FR_len : ∀ m, m < 16 → (FR m).length ≤ 35 := by decide +kernel
theorem L_tell_x (hT : TL s []) (hn : en.1 < 2 ^ 31) : ∃ s', TL s' (TXT en) ∧ frT0 s s' ∧ ∀ (v : Int32) (τ : qS), qev en (d + 5) 204 [.ref 0] s' = some (some (.int v), τ) → qev en (d + 6) 441 [.ref 0, .retAddr 0, .int (1 : Int32), .int (2 : Int32)] s = some (some (.int v), τ) := by
  obtain ⟨m1, x1⟩ := @nyb_is (ceS en 1)
  obtain ⟨m2, x2⟩ := @nyb_is (ceS en 2)
  obtain ⟨m3, x3⟩ := @nyb_is (ceS en 3 >>> ((4 : Int32) &&& 31))
  obtain ⟨m4, x4⟩ := @nyb_is (ceS en 4 >>> ((4 : Int32) &&& 31))
  have l1 := FR_len _ m1
  have l2 := FR_len _ m2
  have l3 := FR_len _ m3
  have l4 := FR_len _ m4
  obtain ⟨v0, s0, e0, t0, f0⟩ := x_say (en := en) (d := d + 2) (a := 7162249994059660064) (b := 7162249994059725600) (F := [99, 101, 108, 108, 32, 120, 59, 32, 99, 101, 108, 108, 32, 121, 59, 32]) (k := 16) hT (Nat.le_of_ble_eq_true rfl) (by decide +kernel) rfl
  obtain ⟨v1, s1, e1, t1, f1⟩ := x_say (en := en) (d := d + 2) (a := 7162249994059784310) (b := 8028899388307563835) (F := [99, 101, 108, 108, 32, 122, 32, 118, 111, 108, 97, 116, 105, 108, 101, 59]) (k := 16) t0 (Nat.le_of_ble_eq_true rfl) (by decide +kernel) rfl
  obtain ⟨v2, s2, e2, t2, f2⟩ := x_say (en := en) (d := d + 2) (a := 2336364779488174395) (b := 2336364779488174651) (F := [32, 108, 111, 99, 107, 32, 97, 59, 32, 108, 111, 99, 107, 32, 98, 59]) (k := 16) t1 (Nat.le_of_ble_eq_true rfl) (by decide +kernel) rfl
  obtain ⟨v3, s3, e3, t3, f3⟩ := x_say (en := en) (d := d + 2) (a := 2338608947048571936) (b := 8367823485023551488) (F := [32, 116, 104, 114, 101, 97, 100, 32, 116, 32, 123, 32]) (k := 12) t2 (Nat.le_of_ble_eq_true rfl) (by decide +kernel) rfl
  have th : TL s3 HDL := t3
  have hl : HDL.length ≤ 100 := by decide +kernel
  obtain ⟨w1, r1, g1, u1, h1⟩ := x_stm (en := en) (d := d + 1) m1 x1 th (by omega)
  obtain ⟨w2, r2, g2, u2, h2⟩ := x_stm (en := en) (d := d + 1) m2 x2 u1 (by rw [List.length_append]; omega)
  obtain ⟨w3, r3, g3, u3, h3⟩ := x_say (en := en) (d := d + 2) (a := 9016334445940400484) (b := 2338811294678777856) (F := MDL) (k := 13) u2 (by rw [List.length_append, List.length_append]; omega) (by decide +kernel) rfl
  have lm : MDL.length = 13 := rfl
  obtain ⟨w4, r4, g4, u4, h4⟩ := x_stm (en := en) (d := d + 1) m3 x3 u3 (by rw [List.length_append, List.length_append, List.length_append]; omega)
  obtain ⟨w5, r5, g5, u5, h5⟩ := x_stm (en := en) (d := d + 1) m4 x4 u4 (by rw [List.length_append, List.length_append, List.length_append, List.length_append]; omega)
  obtain ⟨w6, r6, g6, u6, h6⟩ := x_say (en := en) (d := d + 2) (a := 9007199254740992000) (b := 0) (F := [125]) (k := 1) u5 (by rw [List.length_append, List.length_append, List.length_append, List.length_append, List.length_append]; omega) (by decide +kernel) rfl
  refine ⟨r6, ?_, (f0.tr (f1.tr (f2.tr (f3.tr (h1.tr (h2.tr (h3.tr (h4.tr (h5.tr h6))))))))), fun v τ hp => ?_⟩
  · rw [List.append_assoc, List.append_assoc, List.append_assoc, List.append_assoc, List.append_assoc] at u6
    exact u6
  · refine le_L_tell en (d + 5) 1 2 s _ ?_
    refine (congrArg (fun z => bI z _) e0).trans (bI_some.trans ((congrArg (fun z => bI z _) e1).trans (bI_some.trans ((congrArg (fun z => bI z _) e2).trans (bI_some.trans ((congrArg (fun z => bI z _) e3).trans (bI_some.trans (?_))))))))
    refine le_L_tell_62 en (d + 5) 1 2 0 s3 _ ?_
    rw [if_neg (by decide), show (1 : Int32) + 0 = nI 1 from rfl, x_cell (d := d + 4) (by decide) hn, bI_some, g1, bI_some]
    refine le_L_tell_62 en (d + 5) 1 2 (0 + 1) r1 _ ?_
    rw [if_neg (by decide), show (1 : Int32) + (0 + 1) = nI 2 from rfl, x_cell (d := d + 4) (by decide) hn, bI_some, g2, bI_some]
    refine le_L_tell_62 en (d + 5) 1 2 (0 + 1 + 1) r2 _ ?_
    rw [if_pos (by decide)]
    refine (congrArg (fun z => bI z _) g3).trans (bI_some.trans ?_)
    refine le_L_tell_105 en (d + 5) 1 2 0 r3 _ ?_
    rw [if_neg (by decide), show (1 : Int32) + 2 + 0 = nI 3 from rfl, x_cell (d := d + 4) (by decide) hn, bI_some, g4, bI_some]
    refine le_L_tell_105 en (d + 5) 1 2 (0 + 1) r4 _ ?_
    rw [if_neg (by decide), show (1 : Int32) + 2 + (0 + 1) = nI 4 from rfl, x_cell (d := d + 4) (by decide) hn, bI_some, g5, bI_some]
    refine le_L_tell_105 en (d + 5) 1 2 (0 + 1 + 1) r5 _ ?_
    rw [if_pos (by decide)]
    refine (congrArg (fun z => bI z _) g6).trans (bI_some.trans ?_)
    rw [hp, bI_some]
end TLL
/-- their tokens: kind and value -/
def FTL : List (List (Nat × Nat)) := [[(2, 120), (61, 0), (3, 1), (59, 0)], [(2, 112), (61, 0), (2, 120), (59, 0)], [(2, 121), (61, 0), (2, 112), (59, 0)], [(2, 113), (61, 0), (2, 121), (59, 0)], [(302, 228323819), (2, 97), (59, 0), (2, 120), (61, 0), (2, 112), (59, 0), (303, 4049845613035), (2, 97), (59, 0)], [(301, 1602148), (2, 120), (44, 0), (3, 1), (321, 222018159), (2, 113), (59, 0)], [(300, 1634547), (2, 121), (44, 0), (3, 0), (44, 0), (3, 3), (321, 222018159), (2, 112), (59, 0)], [(309, 27594043877), (59, 0)], [(314, 13542), (2, 112), (123, 0), (2, 121), (61, 0), (3, 2), (59, 0), (125, 0), (316, 213596645), (123, 0), (2, 113), (61, 0), (3, 5), (59, 0), (125, 0)], [(2, 112), (61, 0), (2, 112), (43, 0), (3, 1), (59, 0)], [(2, 122), (61, 0), (2, 113), (59, 0)], [(2, 113), (61, 0), (2, 122), (59, 0)], [(302, 228323819), (2, 98), (59, 0), (2, 113), (61, 0), (2, 120), (59, 0), (303, 4049845613035), (2, 98), (59, 0)], [(311, 3364007541108), (2, 113), (60, 0), (3, 9), (59, 0)], [(2, 121), (61, 0), (3, 7), (59, 0)], [(302, 228323819), (2, 97), (59, 0), (302, 228323819), (2, 98), (59, 0), (303, 4049845613035), (2, 98), (59, 0), (303, 4049845613035), (2, 97), (59, 0)]]
def FT (m : Nat) : List (Nat × Nat) := FTL.getD m []
def HDT : List (Nat × Nat) := [(317, 209286764), (2, 120), (59, 0), (317, 209286764), (2, 121), (59, 0), (317, 209286764), (2, 122), (318, 66920014801434213), (59, 0), (302, 228323819), (2, 97), (59, 0), (302, 228323819), (2, 98), (59, 0), (319, 4013887680740), (2, 116), (123, 0)]
def MDT : List (Nat × Nat) := [(125, 0), (319, 4013887680740), (2, 117), (123, 0)]
theorem FT_ok : ∀ m, m < 16 → lexF 40 (FR m) = some (FT m) ∧ (FR m).all (fun b => decide (b ≠ 35)) = true ∧ (FT m).length ≤ (FR m).length := by decide +kernel
theorem HDT_ok : lexF 60 HDL = some HDT ∧ HDL.all (fun b => decide (b ≠ 35)) = true ∧ HDT.length ≤ HDL.length := by decide +kernel
theorem MDT_ok : lexF 40 MDL = some MDT ∧ MDL.all (fun b => decide (b ≠ 35)) = true ∧ MDT.length ≤ MDL.length := by decide +kernel
/-- the tokens of the whole text -/
def TKS (a1 a2 a3 a4 : Nat) : List (Nat × Nat) := HDT ++ (FT a1 ++ (FT a2 ++ (MDT ++ (FT a3 ++ (FT a4 ++ [(125, 0), (0, 0)])))))
theorem all35 {F : List Nat} (h : F.all (fun b => decide (b ≠ 35)) = true) : ∀ b, b ∈ F → b ≠ 35 := fun b hb => of_decide_eq_true (List.all_eq_true.mp h b hb)
theorem lex_TXT {a1 a2 a3 a4 n : Nat} (h1 : a1 < 16) (h2 : a2 < 16) (h3 : a3 < 16) (h4 : a4 < 16) (hn : n = (HDL ++ (FR a1 ++ (FR a2 ++ (MDL ++ (FR a3 ++ (FR a4 ++ [125])))))).length) : lexL (n + 1) (HDL ++ (FR a1 ++ (FR a2 ++ (MDL ++ (FR a3 ++ (FR a4 ++ [125])))))) = TKS a1 a2 a3 a4 := by
  obtain ⟨b1, c1, d1⟩ := FT_ok a1 h1
  obtain ⟨b2, c2, d2⟩ := FT_ok a2 h2
  obtain ⟨b3, c3, d3⟩ := FT_ok a3 h3
  obtain ⟨b4, c4, d4⟩ := FT_ok a4 h4
  obtain ⟨b5, c5, d5⟩ := HDT_ok
  obtain ⟨b6, c6, d6⟩ := MDT_ok
  rw [List.length_append, List.length_append, List.length_append, List.length_append, List.length_append, List.length_append] at hn
  have hn : n = HDL.length + ((FR a1).length + ((FR a2).length + (MDL.length + ((FR a3).length + ((FR a4).length + 1))))) := hn
  obtain ⟨g, hg⟩ : ∃ g, n + 1 = HDT.length + ((FT a1).length + ((FT a2).length + (MDT.length + ((FT a3).length + ((FT a4).length + (g + 2)))))) := ⟨n + 1 - (HDT.length + ((FT a1).length + ((FT a2).length + (MDT.length + ((FT a3).length + ((FT a4).length + 2)))))), by omega⟩
  rw [hg, lex_app 60 HDL HDT (all35 c5) b5, lex_app 40 _ _ (all35 c1) b1, lex_app 40 _ _ (all35 c2) b2, lex_app 40 MDL MDT (all35 c6) b6, lex_app 40 _ _ (all35 c3) b3, lex_app 40 _ _ (all35 c4) b4]
  have e : lexL (g + 2) [125] = [(125, 0), (0, 0)] := by
    rw [lexL_s, lexL_s]
    rfl
  rw [e]
  rfl
