/-! THE TOP: counts and lines; bytes. -/
section TOPH
variable {en : pN} {d d' k i n N j r v u m nc nl nt key a w p len : Nat} {V cl th K : Nat → Nat} {U : Nat → Nat → Nat} {bl : Nat → List Nat} {go : Nat → Bool} {s s' t t' τ τ' σ σ' : qS} {e x g y b o o' e' x' g' y' fw : Bool} {z a1 a2 a3 : Int32} {P P2 P3 : Nat → fI} {X : xT} {F M T : fI} {f f' : Nat → fI}
theorem sw8 {α : Type} {z : Int} {A B C D E F G H I : Option α} : swI z 0 [A, B, C, D, E, F, G, H] I = if z = 0 then A else if z = 1 then B else if z = 2 then C else if z = 3 then D else if z = 4 then E else if z = 5 then F else if z = 6 then G else if z = 7 then H else I := rfl
theorem sw5 {α : Type} {z : Int} {A B C D E I : Option α} : swI z 0 [A, B, C, D, E] I = if z = 0 then A else if z = 1 then B else if z = 2 then C else if z = 3 then D else if z = 4 then E else I := rfl
theorem al_count (h : IV0 s t) : ∃ (v : Int32) (s' t' : qS), qev en (d + 200) 205 [.ref 0, .int a1] s = some (some (.int v), s') ∧ qev en (d + 200) 290 [.ref 151, .int a1] t = some (some (.int v), t') ∧ IV0 s' t' := by
  obtain ⟨b, o, e, x, g, y, P, P2, V, U, cl, nc, nl, nt, m, N, th, K, bl, ⟨⟨n, B, h1, h2⟩, -, -, ⟨⟨h6, h7⟩, -⟩, -⟩, h13, -, h15, -⟩ := id h
  have e1 : s.1 1 5 = nI n := h1.1
  have e2 : t.1 151 1 = nI n := h2.1
  cases b with
  | false =>
    refine ⟨if a1.toInt = 0 then t.1 151 9 else if a1.toInt = 1 then t.1 151 10 else if a1.toInt = 2 then nI n else if a1.toInt = 3 then 0 else if a1.toInt = 4 then 0 else if a1.toInt = 5 then 0 else if a1.toInt = 6 then 0 else if a1.toInt = 7 then 0 else -1, s, t, le_X11_count en _ _ _ _ ?_, le_X12_count en _ _ _ _ ?_, h⟩
    · rw [h6, h7, e1, h13.1, if_pos bt_f, if_pos bt_f, if_pos bt_f, if_pos bt_f, if_pos bt_f, sw8]
      repeat (split <;> try rfl)
    · rw [e2, h13.2, if_pos bt_f, if_pos bt_f, if_pos bt_f, if_pos bt_f, if_pos bt_f, sw8]
      repeat (split <;> try rfl)
  | true =>
    have hP := h15 rfl
    obtain ⟨c1, c2, c3⟩ := hP.1.1.2.1
    obtain ⟨k1, k2, k3⟩ := hP.1.1.2.2.1
    obtain ⟨l1, l2, -⟩ := hP.1.2.1
    obtain ⟨q1, q2⟩ := hP.2.2.1
    have b1 : ¬ bt true = 0 := by decide
    refine ⟨if a1.toInt = 0 then t.1 151 9 else if a1.toInt = 1 then t.1 151 10 else if a1.toInt = 2 then nI n else if a1.toInt = 3 then nI nc else if a1.toInt = 4 then nI nl else if a1.toInt = 5 then nI nt else if a1.toInt = 6 then nI N else if a1.toInt = 7 then nI m else -1, s, t, le_X11_count en _ _ _ _ ?_, le_X12_count en _ _ _ _ ?_, h⟩
    · rw [h6, h7, e1, h13.1, if_neg b1, if_neg b1, if_neg b1, if_neg b1, if_neg b1, c1, c2, c3, l1, q1, sw8]
      repeat (split <;> try rfl)
    · rw [e2, h13.2, if_neg b1, if_neg b1, if_neg b1, if_neg b1, if_neg b1, k1, k2, k3, l2, q2, sw8]
      repeat (split <;> try rfl)
theorem al_line (h : IV0 s t) : ∃ (v : Int32) (s' t' : qS), qev en (d + 200) 206 [.ref 0, .int a1, .int a2] s = some (some (.int v), s') ∧ qev en (d + 200) 291 [.ref 151, .int a1, .int a2] t = some (some (.int v), t') ∧ IV0 s' t' := by
  obtain ⟨b, o, e, x, g, y, P, P2, V, U, cl, nc, nl, nt, m, N, th, K, bl, -, h13, -, h15, -⟩ := id h
  cases b with
  | false => exact ⟨-1, s, t, rX_line h13.1, rM_line h13.2, h⟩
  | true =>
    have hP := h15 rfl
    obtain ⟨l1, l2, hN, -⟩ := hP.1.2.1
    have b1 : ¬ bt true = 0 := by decide
    by_cases c1 : a1 < 0
    · refine ⟨-1, s, t, le_X11_line en _ _ _ _ _ ?_, le_X12_line en _ _ _ _ _ ?_, h⟩
      · rw [h13.1, if_neg b1, if_pos c1]
      · rw [h13.2, if_neg b1, if_pos c1]
    · obtain ⟨i, hi, rfl⟩ := nI_of c1
      by_cases c2 : i < N
      · obtain ⟨k, ⟨-, p1, p2⟩, ⟨-, p3, p4⟩, p5, -, ⟨p6, -⟩, p7, -⟩ := hP.1.2.2.2.1 i c2
        refine ⟨if a2.toInt = 0 then nI k else if a2.toInt = 1 then nI (th i) else if a2.toInt = 2 then s.1 20 i else if a2.toInt = 3 then s.1 21 i else if a2.toInt = 4 then s.1 22 i else -1, s, t, le_X11_line en _ _ _ _ _ ?_, le_X12_line en _ _ _ _ _ ?_, h⟩
        · rw [h13.1, if_neg b1, if_neg c1, l1, if_pos (by rw [n_LT (by omega) (by omega)]; exact c2), gd_in (by omega) (by decide), gd_in (by omega) (by decide), gd_in (by omega) (by decide), gd_in (by omega) (by decide), gd_in (by omega) (by decide), n_cl (by omega), p1, p3, sw5]
          repeat (split <;> try rfl)
        · rw [h13.2, if_neg b1, if_neg c1, l2, if_pos (by rw [n_LT (by omega) (by omega)]; exact c2), gd_in (by omega) (by decide), gd_in (by omega) (by decide), gd_in (by omega) (by decide), gd_in (by omega) (by decide), gd_in (by omega) (by decide), n_cl (by omega), p2, p4, p5, p6, p7, sw5]
          repeat (split <;> try rfl)
      · refine ⟨-1, s, t, le_X11_line en _ _ _ _ _ ?_, le_X12_line en _ _ _ _ _ ?_, h⟩
        · rw [h13.1, if_neg b1, if_neg c1, l1, if_neg (by rw [n_LT hi (by omega)]; exact c2)]
        · rw [h13.2, if_neg b1, if_neg c1, l2, if_neg (by rw [n_LT hi (by omega)]; exact c2)]
/-- a byte as both keep it -/
theorem by_bv : ∀ q : Fin 256, Int32.ofBitVec ((BitVec.ofNat 8 q.1).setWidth 32) = nI q.1 ∧ Int32.ofBitVec ((BitVec.ofNat 8 q.1).signExtend 32) = sx q.1 := by decide +kernel
theorem by_255 : ∀ i : Fin 32, (255#32).getLsbD i.1 = decide (i.1 < 8) := by decide
theorem by_both (w : Int32) : ∃ q : Nat, q < 256 ∧ w &&& (255 : Int32) = nI q ∧ w.toInt8.toInt32 = sx q := by
  refine ⟨(w.toBitVec.setWidth 8).toNat, (w.toBitVec.setWidth 8).isLt, ?_, ?_⟩
  · rw [← (by_bv ⟨(w.toBitVec.setWidth 8).toNat, (w.toBitVec.setWidth 8).isLt⟩).1]
    apply Int32.toBitVec_inj.mp
    show w.toBitVec &&& 255#32 = _
    apply BitVec.eq_of_getLsbD_eq
    intro i hi
    rw [BitVec.getLsbD_and, by_255 ⟨i, hi⟩]
    show _ = ((BitVec.ofNat 8 (w.toBitVec.setWidth 8).toNat).setWidth 32).getLsbD i
    rw [BitVec.getLsbD_setWidth, BitVec.ofNat_toNat, BitVec.getLsbD_setWidth, BitVec.getLsbD_setWidth]
    simp [hi, Bool.and_comm]
  · rw [← (by_bv ⟨(w.toBitVec.setWidth 8).toNat, (w.toBitVec.setWidth 8).isLt⟩).2]
    apply Int32.toBitVec_inj.mp
    have h8 : w.toBitVec.signExtend 8 = w.toBitVec.setWidth 8 := by
      apply BitVec.eq_of_getLsbD_eq
      intro i hi
      rw [BitVec.getLsbD_signExtend, BitVec.getLsbD_setWidth, if_pos (show i < 32 by omega)]
    show (w.toBitVec.signExtend 8).signExtend 32 = (BitVec.ofNat 8 (w.toBitVec.setWidth 8).toNat).signExtend 32
    rw [h8, BitVec.ofNat_toNat, BitVec.setWidth_eq]
end TOPH
