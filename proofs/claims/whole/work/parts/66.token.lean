/-! ONE TOKEN OF BOTH: kind (0 the end, 1 none, 2 a name, 3 a number, from 300 on a key word, else a sign), value, where it ends. -/
abbrev aT : Type := Nat × Nat × Nat
def aTok (B : Nat → Nat) (n p : Nat) : aT :=
  if n ≤ p then (0, 0, p)
  else if ltr (B p) = true then (if wnd wch B (n - p) p - p ≤ 8 then (kyd (wnu wch 128 B (n - p) p 0), wnu wch 128 B (n - p) p 0, wnd wch B (n - p) p) else (1, 0, wnd wch B (n - p) p))
  else if dgt (B p) = true then (if wnd dgt B (n - p) p - p ≤ 3 then (3, nnu B (n - p) p 0, wnd dgt B (n - p) p) else (1, 0, wnd dgt B (n - p) p))
  else (gkd (B p) (byt B n (p + 1)), 0, gnd (B p) (byt B n (p + 1)) p)
theorem kyd_ne {v : Nat} : kyd v ≠ 0 ∧ kyd v ≠ 1 ∧ kyd v ≠ 3 ∧ (kyd v = 2 ∨ 300 ≤ kyd v) := by
  unfold kyd
  split
  · omega
  · omega
theorem tokX_is {K : Nat → Int64} {B : Nat → Nat} {n p : Nat} (hK : ∀ i, i < 33 → K i = Int64.ofNat (KN.getD i 0)) : (tokX K B n p).1 = (aTok B n p).1 ∧ (tokX K B n p).2.2 = (aTok B n p).2.2 ∧ ((aTok B n p).1 ≠ 1 → (tokX K B n p).2.1 = Int64.ofNat (aTok B n p).2.1) ∧ (aTok B n p).2.1 < 128 ^ 8 := by
  unfold tokX aTok
  by_cases h0 : n ≤ p
  · rw [if_pos h0, if_pos h0]; exact ⟨rfl, rfl, fun _ => rfl, (by decide : 0 < 128 ^ 8)⟩
  · rw [if_neg h0, if_neg h0]
    by_cases hl : ltr (B p) = true
    · rw [if_pos hl, if_pos hl]
      by_cases h8 : wnd wch B (n - p) p - p ≤ 8
      · rw [if_pos h8]
        obtain ⟨e1, e2⟩ := wcd7 (B := B) (n - p) p 0 0 (by decide) (by omega)
        have e1 : wcd wch f7 B (n - p) p 0 = Int64.ofNat (wnu wch 128 B (n - p) p 0) := e1
        have e3 : wnu wch 128 B (n - p) p 0 < 128 ^ 8 := Nat.lt_of_lt_of_le e2 (Nat.pow_le_pow_right (by decide) (by omega))
        rw [e1]
        refine ⟨?_, rfl, fun _ => rfl, e3⟩
        show wkd K (Int64.ofNat (wnu wch 128 B (n - p) p 0)) (wnd wch B (n - p) p - p) = kyd (wnu wch 128 B (n - p) p 0)
        unfold wkd
        rw [if_pos h8, kwd_is hK e3]
      · rw [if_neg h8]
        refine ⟨?_, rfl, fun q => absurd rfl q, (by decide : 0 < 128 ^ 8)⟩
        show wkd K _ (wnd wch B (n - p) p - p) = 1
        unfold wkd
        rw [if_neg h8]
    · rw [if_neg hl, if_neg hl]
      by_cases hd : dgt (B p) = true
      · rw [if_pos hd, if_pos hd]
        by_cases h8 : wnd dgt B (n - p) p - p ≤ 3
        · rw [if_pos h8]
          obtain ⟨e1, -, e3⟩ := wcd10 (B := B) (n - p) p 0 0 (by decide) (by omega)
          have e1 : wcd dgt f10 B (n - p) p 0 = Int64.ofNat (nnu B (n - p) p 0) := e1
          refine ⟨?_, rfl, fun _ => e1, by show nnu B (n - p) p 0 < 128 ^ 8; omega⟩
          show nkd (wnd dgt B (n - p) p - p) = 3
          unfold nkd
          rw [if_pos h8]
        · rw [if_neg h8]
          refine ⟨?_, rfl, fun q => absurd rfl q, (by decide : 0 < 128 ^ 8)⟩
          show nkd (wnd dgt B (n - p) p - p) = 1
          unfold nkd
          rw [if_neg h8]
      · rw [if_neg hd, if_neg hd]
        exact ⟨rfl, rfl, fun _ => rfl, (by decide : 0 < 128 ^ 8)⟩
/-- the model shows the token t that begins at p -/
abbrev MT (σ : qS) (p : Nat) (t : aT) : Prop := σ.1 151 4 = nI p ∧ (t.1 = 1 → σ.1 151 7 = 1 ∧ σ.1 151 8 = nI p) ∧ (t.1 ≠ 1 → σ.1 151 7 = 0 ∧ σ.1 151 2 = nI t.2.2 ∧ σ.1 151 3 = nI (if t.1 = 2 ∨ 300 ≤ t.1 then 1 else if t.1 = 3 then 2 else t.1) ∧ ((t.1 = 2 ∨ 300 ≤ t.1) → σ.2.1 151 5 = Int64.ofNat (w8 8 t.2.1)) ∧ (t.1 = 3 → σ.1 151 6 = nI t.2.1))
theorem ndS_t {w : Int32} {σ : qS} : ndS true w σ = σ := if_pos rfl
theorem ndS_f {w : Int32} {σ : qS} (h : σ.1 151 7 = 0) : (ndS false w σ).1 151 7 = w ∧ (ndS false w σ).1 151 8 = σ.1 151 4 := by
  unfold ndS flS
  rw [if_neg (by decide), if_pos h]
  exact ⟨rfl, rfl⟩
theorem sgn_rg {b : Nat} (h : sgn b = true) : 33 ≤ b ∧ b < 126 := by
  unfold sgn at h
  simp only [List.contains_cons, List.contains_nil, Bool.or_false, Bool.or_eq_true, beq_iff_eq] at h
  omega
theorem m_tok {σ : qS} {B : Nat → Nat} {n p : Nat} (hB : ∀ i, i < n → B i < 256) (h7 : σ.1 151 7 = 0) (h2 : σ.1 151 2 = nI p) (h3 : σ.1 151 3 = 0) (h4 : σ.1 151 4 = nI p) (hp : p ≤ n) : MT (mTok σ B n p) p (aTok B n p) := by
  unfold mTok aTok
  by_cases h0 : n ≤ p
  · rw [if_pos h0, if_pos h0]
    exact ⟨h4, fun q => absurd q (by decide : ¬ (0 = 1)), fun _ => ⟨h7, h2, h3, fun q => absurd q (by decide : ¬ (0 = 2 ∨ 300 ≤ 0)), fun q => absurd q (by decide : ¬ (0 = 3))⟩⟩
  · rw [if_neg h0, if_neg h0]
    by_cases hl : ltr (B p) = true
    · rw [if_pos hl, if_pos hl]
      by_cases h8 : wnd wch B (n - p) p - p ≤ 8
      · rw [if_pos h8, decide_eq_true h8, ndS_t]
        have k := kyd_ne (v := wnu wch 128 B (n - p) p 0)
        refine ⟨h4, fun q => absurd q k.2.1, fun _ => ⟨h7, rfl, ?_, fun _ => ?_, fun q => absurd q k.2.2.1⟩⟩
        · rw [if_pos k.2.2.2]; rfl
        · obtain ⟨e1, -⟩ := wcd8 (B := B) (n - p) p 0 0 (by decide) (by omega)
          have e2 := wnu8 (B := B) (n - p) p 0 0 (by decide) (by omega)
          have e2 : wnu wch 256 B (n - p) p 0 = w8 8 (wnu wch 128 B (n - p) p 0) := e2
          show wcd wch f8 B (n - p) p 0 = Int64.ofNat (w8 8 (wnu wch 128 B (n - p) p 0))
          rw [← e2]
          exact e1
      · rw [if_neg h8, decide_eq_false h8]
        have k := ndS_f (w := 1) (σ := mW σ (wnd wch B (n - p) p) (wcd wch f8 B (n - p) p 0)) h7
        exact ⟨(ndS_at (a := 151) (k := 4) (by omega)).trans h4, fun _ => ⟨k.1, k.2.trans h4⟩, fun q => absurd rfl q⟩
    · rw [if_neg hl, if_neg hl]
      by_cases hd : dgt (B p) = true
      · rw [if_pos hd, if_pos hd]
        by_cases h8 : wnd dgt B (n - p) p - p ≤ 3
        · rw [if_pos h8, decide_eq_true h8, ndS_t]
          refine ⟨h4, fun q => absurd q (by decide : ¬ (3 = 1)), fun _ => ⟨h7, rfl, rfl, fun q => absurd q (by decide : ¬ (3 = 2 ∨ 300 ≤ 3)), fun _ => ?_⟩⟩
          exact (wcd10 (B := B) (n - p) p 0 0 (by decide) (by omega)).2.1
        · rw [if_neg h8, decide_eq_false h8]
          have k := ndS_f (w := 1) (σ := mN σ (wnd dgt B (n - p) p) (ncd B (n - p) p 0 0)) h7
          exact ⟨(ndS_at (a := 151) (k := 4) (by omega)).trans h4, fun _ => ⟨k.1, k.2.trans h4⟩, fun q => absurd rfl q⟩
      · rw [if_neg hd, if_neg hd]
        have hb := hB p (by omega)
        unfold gkd gnd mG
        by_cases hs : sgn (B p) = true
        · rw [hs, ndS_t, if_pos rfl, if_pos rfl]
          have hr : 33 ≤ B p ∧ B p < 126 := sgn_rg hs
          by_cases h9 : two_ (B p) = true ∧ byt B n (p + 1) = 61
          · rw [if_pos h9, if_pos h9, show (two_ (B p) && decide (byt B n (p + 1) = 61)) = true by rw [h9.1, decide_eq_true h9.2]; rfl, if_pos rfl, if_pos rfl]
            refine ⟨h4, fun q => ?_, fun _ => ⟨h7, rfl, ?_, fun q => ?_, fun q => ?_⟩⟩
            · have q : B p + 128 = 1 := q
              omega
            · rw [if_neg (by show ¬ (B p + 128 = 2 ∨ 300 ≤ B p + 128); omega), if_neg (by show ¬ (B p + 128 = 3); omega)]
              rfl
            · have q : B p + 128 = 2 ∨ 300 ≤ B p + 128 := q
              omega
            · have q : B p + 128 = 3 := q
              omega
          · rw [if_neg h9, if_neg h9, show (two_ (B p) && decide (byt B n (p + 1) = 61)) = false by
              cases h : two_ (B p) with
              | false => rfl
              | true => rw [Bool.true_and, decide_eq_false (fun z => h9 ⟨h, z⟩)], if_neg (by decide), if_neg (by decide)]
            refine ⟨h4, fun q => ?_, fun _ => ⟨h7, rfl, ?_, fun q => ?_, fun q => ?_⟩⟩
            · have q : B p = 1 := q
              omega
            · rw [if_neg (by show ¬ (B p = 2 ∨ 300 ≤ B p); omega), if_neg (by show ¬ (B p = 3); omega)]
              rfl
            · have q : B p = 2 ∨ 300 ≤ B p := q
              omega
            · have q : B p = 3 := q
              omega
        · have hs' : sgn (B p) = false := by revert hs; cases sgn (B p) <;> simp
          rw [if_neg hs, if_neg hs, hs']
          have k := ndS_f (w := 1) (σ := σ) h7
          exact ⟨(ndS_at (a := 151) (k := 4) (by omega)).trans h4, fun _ => ⟨k.1, k.2.trans h4⟩, fun q => absurd rfl q⟩
