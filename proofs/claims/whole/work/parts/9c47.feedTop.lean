/-! THE TOP: text fed, text ended. -/
section TOPI
variable {en : pN} {d d' k i n N j r v u m nc nl nt key a w p len : Nat} {V cl th K : Nat → Nat} {U : Nat → Nat → Nat} {bl : Nat → List Nat} {go : Nat → Bool} {s s' t t' τ τ' σ σ' : qS} {e x g y b o o' e' x' g' y' fw : Bool} {z a1 a2 a3 a4 a5 : Int32} {P P2 P3 : Nat → fI} {X : xT} {F M T : fI} {f f' : Nat → fI}
/-- only the text changes -/
theorem IVp_t (h : IVp s t b o e x g y P P2 V U cl nc nl nt m N th K bl) (f1 : ∀ c, c ≠ 1 → c ≠ 2 → s'.1 c = s.1 c) (f2 : s'.2 = s.2) (g1 : ∀ c, c ≠ 151 → c ≠ 152 → t'.1 c = t.1 c) (g2 : ∀ j, j ≠ 1 → t'.1 151 j = t.1 151 j) (g3 : t'.2 = t.2) (tk : tkI s' t') : IVp s' t' b o e x g y P P2 V U cl nc nl nt m N th K bl := by
  obtain ⟨⟨-, ⟨h3, h4⟩, h5, ⟨⟨h6, h7⟩, ⟨h8, h9⟩, h10⟩, ⟨Mt, h11, h12⟩⟩, h13, h14, h15, h16, h17, h18, h19⟩ := h
  have sI : ∀ c, c ≠ 1 ∧ c ≠ 2 → s'.1 c = s.1 c := fun c hc => f1 c hc.1 hc.2
  have tI : ∀ c, c ≠ 151 ∧ c ≠ 152 → t'.1 c = t.1 c := fun c hc => g1 c hc.1 hc.2
  have mbv : ∀ (v : Nat) (Q : Nat → fI), MB t v Q nc nl nt N → MB t' v Q nc nl nt N := fun v Q hB => MB_v hB (fun c hc => tI c (by omega)) (fun j _ => by rw [tI 161 (by decide), tI 162 (by decide)]; exact ⟨rfl, rfl⟩) (fun c c1 _ _ _ => by rw [tI c (by omega)]) (fun _ _ => by rw [tI 181 (by decide)])
  have pq : ∀ z : Bool, ((if z = true then 36 else 11) = 11 ∨ (if z = true then 36 else 11) = 36) := fun z => by cases z <;> simp
  refine ⟨⟨tk, ⟨?_, ?_⟩, fun a k ha hk => ?_, ⟨⟨?_, ?_⟩, ⟨?_, ?_⟩, ?_⟩, ⟨Mt, ?_, ?_⟩⟩, ?_, ?_, fun hb => ?_, fun ho => ?_, ?_, fun he => ?_, fun hg => ?_⟩
  · rw [f2]; exact h3
  · rw [f2]; exact h4
  · rw [f2] at hk ⊢; exact h5 a k ha hk
  · rw [sI 65 (by decide), g2 9 (by decide)]; exact h6
  · rw [sI 65 (by decide), g2 10 (by decide)]; exact h7
  · rw [sI 0 (by decide), g2 131 (by decide)]; exact h8
  · rw [sI 0 (by decide), g2 150 (by decide)]; exact h9
  · rw [sI 103 (by decide)]; exact h10
  · unfold tdI; rw [sI 125 (by decide), sI 150 (by decide)]; exact h11
  · unfold tmI; rw [g2 96 (by decide), tI 208 (by decide)]; exact h12
  · rw [sI 0 (by decide), g2 11 (by decide)]; exact h13
  · rw [sI 0 (by decide), g2 147 (by decide)]; exact h14
  · exact PGx_fr (h15 hb) ⟨fun c _ c2 => sI c (by omega), fun j _ => by rw [sI 8 (by decide), sI 9 (by decide)]; exact ⟨rfl, rfl⟩, sI 68 (by decide), fun c hc => by rw [f2]⟩ ⟨fun c hc => tI c (by omega), fun j _ => by rw [tI 161 (by decide), tI 162 (by decide)]; exact ⟨rfl, rfl⟩, fun c c1 _ j _ => by rw [tI c (by omega)], fun j _ => by rw [tI 181 (by decide)], fun j hj => g2 j (by omega), fun c hc => by rw [g3], fun j _ => by rw [g3]⟩
  · obtain ⟨q1, q2⟩ := h16 ho
    exact ⟨q1, rwI_fr q2 (fun c hc => sI c (by omega)) ⟨fun c hc => tI c (by omega), fun j _ => by rw [tI 161 (by decide), tI 162 (by decide)]; exact ⟨rfl, rfl⟩, fun c c1 c2 j _ _ => by rw [tI c (by omega)], fun j _ _ => by rw [tI 181 (by decide)], g2 32 (by decide), fun j _ _ => by rw [g3]⟩⟩
  · unfold flE
    rw [sI 70 (by decide), sI 0 (by decide), sI 111 (by decide), g2 98 (by decide), g2 148 (by decide), g2 74 (by decide), g2 149 (by decide)]
    exact h17
  · obtain ⟨q1, q2, w, fw, X, w1, w2, w3, w4, w5, w6, w7, w8⟩ := h18 he
    have hp := pq x
    refine ⟨q1, q2, w, fw, X, w1, w2.fl ⟨fun c hc => sI c (by omega), fun j _ => by rw [sI 70 (by decide)], by rw [f2], by rw [f2]⟩, w3.fl (mbv 2 _ w3.flat.1.1) ⟨fun c c1 _ => tI c (by omega), fun j hj => g2 j (by omega)⟩, w4, w5, ⟨w6.1, xtI_eq w6.2 (tI 175 (by decide)) (by rw [g3])⟩, ?_, ?_⟩
    · unfold swx; rw [sI 70 (by decide), sI 96 (by decide)]; exact w7
    · unfold swm; rw [g2 121 (by decide), tI 229 (by decide)]; exact w8
  · obtain ⟨q1, q2, w, M, len, f, f', w1, w2, w3, w4, w5, w6, w7⟩ := h19 hg
    have hp := pq y
    exact ⟨q1, q2, w, M, len, f, f', w1, RXi.flw w2 (fun c hc => sI c (by omega)) (fun j _ => by rw [sI 8 (by decide), sI 9 (by decide)]; exact ⟨rfl, rfl⟩) (by rw [sI 112 (by decide)]) ⟨by rw [sI 111 (by decide)], by rw [sI 111 (by decide)]⟩ (by rw [f2]) (by rw [f2]), RMi.flw w3 (mbv 3 _ w3.1) (fun c c1 c2 => tI c (by omega)) (fun j hj => g2 j (by omega)) (by rw [g3]) (fun j _ => by rw [g3]), w4, w5, w6, fun l hl hk => by rw [g3]; exact w7 l hl hk⟩
theorem al_end (h : IV0 s t) : ∃ (v : Int32) (s' t' : qS), qev en (d + 200) 203 [.ref 0, .int a1] s = some (some (.int v), s') ∧ qev en (d + 200) 242 [.ref 151, .int a1] t = some (some (.int v), t') ∧ IV0 s' t' := by
  obtain ⟨b, o, e, x, g, y, P, P2, V, U, cl, nc, nl, nt, m, N, th, K, bl, q⟩ := id h
  obtain ⟨n, B, h1, h2⟩ := q.1.1
  have cX := c_endX (en := en) (d := d + 199) (a := a1) h1.1 h1.2.1
  have cM := c_endM (en := en) (d := d + 199) (a := a1) h2.1 h2.2.1
  by_cases c : a1 < 0 ∨ 20 < a1 ∨ n < 20
  · rw [if_pos c] at cX cM
    exact ⟨-1, s, t, cX, cM, h⟩
  · rw [if_neg c] at cX cM
    obtain ⟨k, hk, rfl⟩ := nI_of (fun z => c (Or.inl z))
    have hk20 : k ≤ 20 := by
      apply Nat.not_lt.mp
      intro z
      exact c (Or.inr (Or.inl (by rw [n_lt (by decide) hk]; exact z)))
    have hn20 : 20 ≤ n := Nat.not_lt.mp (fun z => c (Or.inr (Or.inr z)))
    have hn := h1.2.1
    have e1 : nI n - ((20 : Int32) - nI k) = nI (n - (20 - k)) := by
      rw [show (20 : Int32) - nI k = nI (20 - k) from n_sl hk20, n_sub (by omega)]
    rw [e1] at cX cM
    refine ⟨nI (n - (20 - k)), _, _, cX, cM, (IVp_t q (fun c c1 _ => uI_ne c1) rfl (fun c c1 _ => uI_ne c1) (fun j hj => by rw [rdU, if_neg (fun z => hj z.2)]) rfl ⟨n - (20 - k), B, ⟨by rw [rdU, if_pos ⟨rfl, rfl⟩], by omega, fun i hi => h1.2.2.1 i (by omega), fun i hi => by rw [uI_ne (by decide)]; exact h1.2.2.2 i (by omega)⟩, ⟨by rw [rdU, if_pos ⟨rfl, rfl⟩], by omega, fun i hi => h2.2.2.1 i (by omega), fun i hi => by rw [uI_ne (by decide)]; exact h2.2.2.2 i (by omega)⟩⟩).to⟩
theorem sh20 : ∀ i : Fin 20, (24 : Int32) - (8 : Int32) * (nI i.1 - nI i.1 / (4 : Int32) * (4 : Int32)) = nI (24 - 8 * (i.1 % 4)) := by decide +kernel
theorem ap2 {v : Int32} : (apS σ n v).1 2 j = if j = n + 3 then byX v 0 else if j = n + 2 then byX v 8 else if j = n + 1 then byX v 16 else if j = n then byX v 24 else σ.1 2 j := by
  rw [apS_I, if_neg (fun z => absurd z.1 (by decide))]
  simp only [true_and]
theorem ap_o {v : Int32} (h1 : a ≠ 1) (h2 : a ≠ 2) : (apS σ n v).1 a = σ.1 a := by
  funext j
  rw [apS_I, if_neg (fun z => h1 z.1), if_neg (fun z => h2 z.1), if_neg (fun z => h2 z.1), if_neg (fun z => h2 z.1), if_neg (fun z => h2 z.1)]
theorem fd_2 : (fdS s n a1 a2 a3 a4 a5).2 = s.2 := by
  unfold fdS
  exact Prod.ext (by rw [apS_J, apS_J, apS_J, apS_J, apS_J]) (by rw [apS_R, apS_R, apS_R, apS_R, apS_R])
theorem fd_len : (fdS s n a1 a2 a3 a4 a5).1 1 5 = nI (n + 20) := by
  unfold fdS
  rw [apS_len]
theorem fd_o (h1 : a ≠ 1) (h2 : a ≠ 2) : (fdS s n a1 a2 a3 a4 a5).1 a = s.1 a := by
  unfold fdS
  rw [ap_o h1 h2, ap_o h1 h2, ap_o h1 h2, ap_o h1 h2, ap_o h1 h2]
theorem fd_lo (hj : j < n) : (fdS s n a1 a2 a3 a4 a5).1 2 j = s.1 2 j := by
  unfold fdS
  rw [ap2, if_neg (by omega), if_neg (by omega), if_neg (by omega), if_neg (by omega), ap2, if_neg (by omega), if_neg (by omega), if_neg (by omega), if_neg (by omega), ap2, if_neg (by omega), if_neg (by omega), if_neg (by omega), if_neg (by omega), ap2, if_neg (by omega), if_neg (by omega), if_neg (by omega), if_neg (by omega), ap2, if_neg (by omega), if_neg (by omega), if_neg (by omega), if_neg (by omega)]
theorem fd_hi (hi : i < 20) : (fdS s n a1 a2 a3 a4 a5).1 2 (n + i) = (vM a1 a2 a3 a4 a5 i >>> (((24 : Int32) - ((8 : Int32) * (nI i - nI i / (4 : Int32) * (4 : Int32)))) &&& 31)).toInt8.toInt32 := by
  rw [sh20 ⟨i, hi⟩]
  unfold fdS
  have : i = 0 ∨ i = 1 ∨ i = 2 ∨ i = 3 ∨ i = 4 ∨ i = 5 ∨ i = 6 ∨ i = 7 ∨ i = 8 ∨ i = 9 ∨ i = 10 ∨ i = 11 ∨ i = 12 ∨ i = 13 ∨ i = 14 ∨ i = 15 ∨ i = 16 ∨ i = 17 ∨ i = 18 ∨ i = 19 := by omega
  rcases this with rfl | rfl | rfl | rfl | rfl | rfl | rfl | rfl | rfl | rfl | rfl | rfl | rfl | rfl | rfl | rfl | rfl | rfl | rfl | rfl <;> simp [ap2, byX, vM, nI, Nat.add_assoc]
theorem al_feed (h : IV0 s t) : ∃ (v : Int32) (s' t' : qS), qev en (d + 200) 202 [.ref 0, .int a1, .int a2, .int a3, .int a4, .int a5] s = some (some (.int v), s') ∧ qev en (d + 200) 241 [.ref 151, .int a1, .int a2, .int a3, .int a4, .int a5] t = some (some (.int v), t') ∧ IV0 s' t' := by
  obtain ⟨b, o, e, x, g, y, P, P2, V, U, cl, nc, nl, nt, m, N, th, K, bl, q⟩ := id h
  obtain ⟨n, B, h1, h2⟩ := q.1.1
  have cX := c_feedX (en := en) (d := d + 198) (a := a1) (b := a2) (c := a3) (e := a4) (f := a5) h1.1 h1.2.1
  obtain ⟨t', cM, m2, m1⟩ := c_feedM (en := en) (d := d + 199) (a := a1) (b := a2) (c := a3) (e := a4) (f := a5) h2.1 h2.2.1
  by_cases c : n ≤ 3980
  · rw [if_pos c] at cX cM
    simp only [if_pos c] at m1
    have by' : ∀ i : Nat, ∃ q : Nat, q < 256 ∧ byM (vM a1 a2 a3 a4 a5 i) i = nI q ∧ (vM a1 a2 a3 a4 a5 i >>> (((24 : Int32) - ((8 : Int32) * (nI i - nI i / (4 : Int32) * (4 : Int32)))) &&& 31)).toInt8.toInt32 = sx q := fun i => by_both _
    let B' : Nat → Nat := fun j => if j < n then B j else (by' (j - n)).choose
    have hB1 : ∀ j, j < n → B' j = B j := fun j hj => if_pos hj
    have hB2 : ∀ j, ¬ j < n → B' j = (by' (j - n)).choose := fun j hj => if_neg hj
    have hb' : ∀ i, i < n + 20 → B' i < 256 := fun i hi => by
      by_cases c2 : i < n
      · rw [hB1 i c2]; exact h1.2.2.1 i c2
      · rw [hB2 i c2]; exact (by' (i - n)).choose_spec.1
    generalize hS : fdS s n a1 a2 a3 a4 a5 = S at cX
    have S2 : S.2 = s.2 := by rw [← hS]; exact fd_2
    have Sl : S.1 1 5 = nI (n + 20) := by rw [← hS]; exact fd_len
    have So : ∀ c, c ≠ 1 → c ≠ 2 → S.1 c = s.1 c := fun c c1 c2 => by rw [← hS]; exact fd_o c1 c2
    refine ⟨nI (n + 20), S, t', cX, cM, (IVp_t (s' := S) q So S2 (fun c c1 c2 => funext fun j => ?_) (fun j hj => ?_) m2 ⟨n + 20, B', ⟨Sl, by omega, hb', fun i hi => ?_⟩, ⟨?_, by omega, hb', fun i hi => ?_⟩⟩).to⟩
    · rw [m1, if_neg (fun z => c1 z.1), if_neg (fun z => c2 z.1)]
    · rw [m1, if_neg (fun z => hj z.2), if_neg (fun z => absurd z.1 (by decide))]
    · rw [← hS]
      by_cases c2 : i < n
      · rw [hB1 i c2, fd_lo c2]; exact h1.2.2.2 i c2
      · rw [hB2 i c2]
        have := fd_hi (s := s) (n := n) (a1 := a1) (a2 := a2) (a3 := a3) (a4 := a4) (a5 := a5) (i := i - n) (by omega)
        rw [show n + (i - n) = i by omega] at this
        rw [this]
        exact (by' (i - n)).choose_spec.2.2
    · rw [m1, if_pos ⟨rfl, rfl⟩]
    · by_cases c2 : i < n
      · rw [hB1 i c2, m1, if_neg (fun z => absurd z.1 (by decide)), if_neg (fun z => by have := z.2.1; omega)]; exact h2.2.2.2 i c2
      · rw [hB2 i c2, m1, if_neg (fun z => absurd z.1 (by decide)), if_pos ⟨rfl, by omega, by omega⟩]
        exact (by' (i - n)).choose_spec.2.1
  · rw [if_neg c] at cX cM
    simp only [if_neg c] at m1
    have e : t' = t := Prod.ext (funext fun u => funext fun j => m1 u j) m2
    rw [e] at cM
    exact ⟨-3, s, t, cX, cM, h⟩
end TOPI
