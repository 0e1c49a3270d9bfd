/-! THE LAW'S WALK: from its first instruction. -/
section LWT
variable {L : Nat} {xs : Nat → Int32}
theorem s0_keys : ∀ i, i < 33 → s0.2.1 3 i = Int64.ofNat (KN.getD i 0) := by decide +kernel
set_option maxRecDepth 100000 in
set_option maxHeartbeats 4000000 in
theorem law_run (hL : L ≤ 260) : lawRun L xs := by
  have hn : ((L, xs) : pN).1 < 2 ^ 31 := by show L < 2 ^ 31; omega
  obtain ⟨s', hT, ⟨f1, f2, f3⟩, ht⟩ := L_tell_x (en := (L, xs)) (d := 294) (s := s0) ⟨rfl, Nat.zero_le _, fun i hi => absurd hi (Nat.not_lt_zero i), fun i hi => absurd hi (Nat.not_lt_zero i)⟩ hn
  obtain ⟨τ, N, lc, bl, Km, tm, hq, hP, hTr, hN1, hN16, g1, g2, -, -, -, -⟩ := x_prog (en := (L, xs)) (s := s') (nyb_is (x := ceS (L, xs) 1)).1 (nyb_is (x := ceS (L, xs) 2)).1 (nyb_is (x := ceS (L, xs) 3 >>> ((4 : Int32) &&& 31))).1 (nyb_is (x := ceS (L, xs) 4 >>> ((4 : Int32) &&& 31))).1 hT (fun a k ha => by rw [f3]; exact if_neg ha) (fun k => by rw [f3]; rfl) (by rw [f1 65 (by decide) (by decide)]; rfl) (fun i hi => by rw [f3]; exact s0_keys i hi) (fun c _ => by rw [f1 15 (by decide) (by decide)]; rfl)
  have et := ht 0 τ (hq 299 (by decide))
  have r0 : ∀ j, s'.1 0 j = s0.1 0 j := fun j => by rw [f1 0 (by decide) (by decide)]
  generalize hPP : rdP τ 11 = P at hP
  have hrow : ∀ a, a < 25 → τ.1 (11 + a) = P a := fun a ha => by
    rw [← hPP]
    unfold rdP
    rw [if_neg (by omega), if_neg (by omega), if_neg (by omega)]
  have h27 : P 27 = fun _ => nI 400 := by rw [← hPP]; rfl
  have hb : BS P τ := by
    refine ⟨hrow, ⟨by rw [← hPP]; rfl, by rw [← hPP]; rfl⟩, ?_, ?_, ?_, ?_, ?_⟩
    · rw [g2, if_pos rfl]; decide
    · rw [g2, if_neg (by decide), if_neg (by decide), if_neg (by decide), if_pos rfl]
    · rw [g2, if_neg (by decide), if_neg (by decide), if_neg (by decide), if_neg (by decide), r0]; rfl
    · rw [g2, if_neg (by decide), if_neg (by decide), if_neg (by decide), if_neg (by decide), r0]; rfl
    · rw [g2, if_neg (by decide), if_pos rfl]
  have h113 : τ.1 113 = fun _ => 0 := by
    rw [(g1 113 (by unfold rdC; omega) (by decide) (by decide) (by decide)).1, f1 113 (by decide) (by decide)]
    rfl
  have hl : lmN P = 400 := by
    show clp (P 27 0) = 400
    rw [h27]
    exact n_clp (by decide)
  obtain ⟨hG, hk, -⟩ := PRG_good hP (by omega)
  have h8 := hP.1.2.2.1.2
  have hA : LG (L, xs) 20 [(0, .retAddr 0), (1, .ref 0)] (heapOf hX0 τ) := lw_A hP hl hN1 (fun X A B τ1 hX hA hB1 hB hx1 hb1 z1 => lw_B hG hX hB1 hB (fun m τ2 hm hx2 hb2 z2 => lw_D hn (fun dd kk hd hkk τ3 hx3 hb3 z3 => lw_E hG hk hX hB1 (by omega) hd hkk (fun τ4 hb4 z4 => lw_F hG hl hX hA hB1 (by omega) hm (fun τ5 hb5 z5 => lw_H hn hG hk h8 hl (fun τ6 M len f l hr hb6 hz hv hp he => lw_J hG.1 hr hb6 hz (by omega) (by
      subst hp
      obtain ⟨o, ho, eo⟩ := out_all hG hX hv he
      refine inS_of (i := o) ?_ B (by rw [← hB1]; exact ho)
      rw [hm o ho, oV_e eo]) (lw_L hn hP h27 hN1 hrow hTr hX hA hB1 (by omega) hm hb6)) hb5 z5) hb4 z4) B 0 τ3 (Nat.zero_add _) hx3 hb3 z3) hx2 hb2 z2) hx1 hb1 z1) hb h113
  obtain ⟨h', hb', k⟩ := hA
  have st : xW (pev msL (L, xs) 300) (L, xs) (some .boolean) tb_law (0, [(0, .retAddr 0)], []) hp_0 (some (.int 1), h') := by
    refine law_pre (d := 293) ?_
    rw [hp_s0]
    refine x_L 4 (f' := (12, [(1, .ref 0), (0, .retAddr 0)], [.int (2 : Int32), .int (1 : Int32), .retAddr 0, .ref 0])) rfl ?_
    refine x_stat 441 rfl rfl rfl ix_L_tell rfl (Nat.le_of_ble_eq_true rfl) (qev_pev 300 _ _ _ _ _ (et)) ?_
    show xW _ (L, xs) (some .boolean) tb_law (15, [(1, .ref 0), (0, .retAddr 0)], [.int (0 : Int32)]) (heapOf hX0 τ) _
    refine x_ifz true rfl (by decide) ?_
    exact x_sub (qsubL [1, 0] rfl (ks := [1, 0]) rfl (by decide)) k
  obtain ⟨n, hn'⟩ := st
  exact ⟨300, n, h', by decide, hn', hb'.1, hb'.2⟩
end LWT
