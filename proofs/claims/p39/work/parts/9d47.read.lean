/-! THE READER, the class's own: a law's program, read from its text. -/
section PGQ
variable {en : pN} {n a1 a2 a3 a4 : Nat} {s τ : qS} {K : List (Nat × Nat)} {B : Nat → Nat}
/-- reading begins -/
theorem pg_beg (hT : TX s n B) (hz : frS sT s) (h14 : s.1 65 14 = 0) : ∃ τ : qS, qev en 10 113 [.ref 65, .ref 7, .int (0 : Int32)] (pcS s) = some (none, τ) ∧ TC τ (cutL (s.2.1 3) B n (n + 1) 0) ∧ TA τ (cutL (s.2.1 3) B n (n + 1) 0) 0 ∧ τ.2.1 3 = s.2.1 3 ∧ RSb τ 0 0 0 0 NW0 (τ.1 11) (τ.1 15) (τ.1 14) (τ.1 16) (τ.2.1 13) (fun f => τ.1 (18 + f)) (τ.1 8) (τ.1 9) ∧ (∀ j, 8 ≤ j → j ≤ 11 → τ.1 11 j = 0) ∧ (∀ u, u < 4 → τ.1 14 u = 0) ∧ τ.1 15 = s.1 15 := by
  let s7 : qS := uI (uI (uI (uI (uI (uR (pcS s) 65 7 8) 7 3 0) 65 8 0) 65 11 0) 65 12 (-2)) 65 13 0
  have o : ∀ a, a ≠ 65 → a ≠ 7 → s7.1 a = (pcS s).1 a := fun a h1 h2 => (uI_ne h1).trans ((uI_ne h1).trans ((uI_ne h1).trans ((uI_ne h1).trans (uI_ne h2))))
  have J : s7.2.1 = (pcS s).2.1 := rfl
  have J3 : s7.2.1 3 = s.2.1 3 := by
    rw [J]; funext j
    rw [pcS_J, if_neg (by decide)]
  have R : ∀ a k, s7.2.2 a k = if a = 65 ∧ k = 7 then 8 else s.2.2 a k := fun a k => rfl
  have hT7 : TX s7 n B := by
    refine ⟨?_, hT.2.1, hT.2.2.1, fun i hi => ?_⟩
    · rw [o 1 (by decide) (by decide), pcS_o (by decide) (by decide) (by decide)]; exact hT.1
    · rw [o 2 (by decide) (by decide), pcS_o (by decide) (by decide) (by decide)]; exact hT.2.2.2 i hi
  have hz7 : frS sT s7 := by
    intro a k ha hn
    have a65 : ¬ (a = 65 ∧ k = 7) := fun z => by
      have := z.1
      unfold sT at ha; omega
    rw [R, if_neg a65] at hn ⊢
    exact hz a k ha hn
  obtain ⟨τ, e1, e2, e3, e4, e5, e6, e7⟩ := x_cutF (en := en) (d := 2) hT7 hz7
  have fr : ∀ a, ¬ sT a → τ.1 a = s7.1 a ∧ τ.2.1 a = s7.2.1 a ∧ τ.2.2 a = s7.2.2 a := e6
  have n65 : ¬ sT 65 := by unfold sT; omega
  have n7 : ¬ sT 7 := by unfold sT; omega
  have n11 : ¬ sT 11 := by unfold sT; omega
  have n12 : ¬ sT 12 := by unfold sT; omega
  have n14 : ¬ sT 14 := by unfold sT; omega
  have n15 : ¬ sT 15 := by unfold sT; omega
  have f65 : ∀ j, s7.1 65 j = if j = 13 then 0 else if j = 12 then -2 else if j = 11 then 0 else if j = 8 then 0 else s.1 65 j := fun j => by
    show (uI (uI (uI (uI (uI (uR (pcS s) 65 7 8) 7 3 0) 65 8 0) 65 11 0) 65 12 (-2)) 65 13 0).1 65 j = _
    rw [g_I, g_I, g_I, g_I, g_I, g_RI, pcS_o (by decide) (by decide) (by decide)]
    by_cases q : j = 13
    · rw [if_pos ⟨rfl, q⟩, if_pos q]
    rw [if_neg (fun z => q z.2), if_neg q]
    by_cases q : j = 12
    · rw [if_pos ⟨rfl, q⟩, if_pos q]
    rw [if_neg (fun z => q z.2), if_neg q]
    by_cases q : j = 11
    · rw [if_pos ⟨rfl, q⟩, if_pos q]
    rw [if_neg (fun z => q z.2), if_neg q]
    by_cases q : j = 8
    · rw [if_pos ⟨rfl, q⟩, if_pos q]
    rw [if_neg (fun z => q z.2), if_neg q, if_neg (fun z => absurd z.1 (by decide))]
  have f7 : s7.1 7 3 = 0 := by
    show (uI (uI (uI (uI (uI (uR (pcS s) 65 7 8) 7 3 0) 65 8 0) 65 11 0) 65 12 (-2)) 65 13 0).1 7 3 = _
    rw [g_I, g_I, g_I, g_I, g_I, if_neg (by decide), if_neg (by decide), if_neg (by decide), if_neg (by decide), if_pos ⟨rfl, rfl⟩]
  have c11 : ∀ j, 7 ≤ j → j ≤ 13 → τ.1 11 j = 0 := fun j h1 h2 => by
    rw [(fr 11 n11).1, o 11 (by decide) (by decide), pcS_11 ⟨h1, h2⟩]
  refine ⟨τ, ?_, ?_, ?_, ?_, ⟨⟨?_, ?_, ?_⟩, ⟨?_, by decide⟩, ⟨?_, by decide⟩, ⟨c11 12 (by decide) (by decide), by decide⟩, ⟨?_, by decide⟩, fun j hj => ?_, fun _ _ _ => rfl, fun _ _ => rfl, fun _ _ => ⟨rfl, rfl⟩, fun _ _ => rfl, fun _ _ i hi => absurd hi (Nat.not_lt_zero i), fun j hj => absurd hj (Nat.not_lt_zero j)⟩, fun j h1 h2 => c11 j (by omega) (by omega), fun u hu => ?_, ?_⟩
  · refine le_X6_open en _ _ _ _ _ ?_
    rw [gd_true (show lc 7 = 4 from rfl), nm_eq, show (uR (pcS s) 65 7 (7 + 1)).2.2 65 7 = 8 from rfl, gd_true ⟨by decide, rfl⟩, nm_eq, nm_eq, gd_true (show isB (0 : Int32) = true from rfl), nm_eq, nm_eq, nm_eq, nm_eq]
    show bV (qev en 9 166 [.ref 1] s7) _ = _
    rw [e1, bV_some]
  · rw [← J3]; exact e3
  · rw [← J3]; exact e4
  · rw [← J3]; exact e5
  · rw [(fr 65 n65).1, f65]; rfl
  · rw [(fr 65 n65).1, f65]; rfl
  · rw [(fr 65 n65).2.2]; rfl
  · rw [(fr 65 n65).1, f65]; rfl
  · rw [(fr 7 n7).1]; exact f7
  · rw [(fr 65 n65).1, f65]; exact h14
  · rw [(fr 12 n12).2.1, J, pcS_J, if_pos rfl, if_pos hj]; rfl
  · rw [(fr 14 n14).1, o 14 (by decide) (by decide), pcS_14 hu]
  · rw [(fr 15 n15).1, o 15 (by decide) (by decide), pcS_o (by decide) (by decide) (by decide)]
/-- the whole -/
theorem pg_rd (h1 : a1 < 16) (h2 : a2 < 16) (h3 : a3 < 16) (h4 : a4 < 16) (hT : TL s (HDL ++ (FR a1 ++ (FR a2 ++ (MDL ++ (FR a3 ++ (FR a4 ++ [125]))))))) (hz : frS sT s) (h14 : s.1 65 14 = 0) (hK : ∀ i, i < 33 → s.2.1 3 i = Int64.ofNat (KN.getD i 0)) (h15 : ∀ c, c < 8 → s.1 15 c = 0) :
    ∃ (τ : qS) (N : Nat) (lc : Nat → Nat) (bl : Nat → List Nat) (Km tm : Nat → Nat), QV en 140 117 [.ref 65] s (none, τ) ∧ τ.1 65 11 = 0 ∧ PRG (rdP τ 11) 3 2 N lc bl Km tm (fun _ => false) ∧ TRs τ 2 N bl Km tm ∧ 1 ≤ N ∧ N ≤ 16 := by
  obtain ⟨s1, e1, c1, c2, c3, r1, k1, l1, v1⟩ := pg_beg (en := en) hT hz h14
  have K1 : LKs s1 (TKS a1 a2 a3 a4) := LKs_0 (by rw [c3]; exact c1) (by rw [c3]; exact c2) (by rw [c3]; exact hK) (fun i _ => rfl) rfl (lex_TXT h1 h2 h3 h4 rfl) (TKS_ok h1 h2 h3 h4)
  have ne : ∀ m, m < 16 → ∃ e0 T0, FT m = e0 :: T0 := fun m hm => by
    have : ∀ m, m < 16 → FT m ≠ [] := by decide
    exact List.exists_cons_of_ne_nil (this m hm)
  obtain ⟨x1, X1, hx1⟩ := ne a1 h1
  have K1' : LKs s1 (HDT ++ x1 :: (X1 ++ (FT a2 ++ ((125, 0) :: (319, 4013887680740) :: (2, 117) :: (123, 0) :: (FT a3 ++ (FT a4 ++ [(125, 0), (0, 0)])))))) := by
    have : TKS a1 a2 a3 a4 = HDT ++ x1 :: (X1 ++ (FT a2 ++ ((125, 0) :: (319, 4013887680740) :: (2, 117) :: (123, 0) :: (FT a3 ++ (FT a4 ++ [(125, 0), (0, 0)]))))) := by
      unfold TKS
      rw [hx1]; rfl
    rw [← this]; exact K1
  obtain ⟨s2, C2, V2, a2', k2, r2, c92, c102, c112, hV2⟩ := hd_rd (en := en) r1 K1' (k1 9 (by decide) (by decide)) (k1 10 (by decide) (by decide)) (k1 11 (by decide) (by decide)) (fun c hc => by rw [v1]; exact h15 c hc)
  -- the first thread
  obtain ⟨s3, e3, g3, f3⟩ := x_skipY (en := en) (d := 0) k2
  have r3 := RSb_ad r2 f3
  have l3 : ∀ u, u < 4 → s3.1 14 u = 0 := fun u hu => ((r3.2.2.2.2.2.2.2.2.1 u hu).1).trans (l1 u hu)
  have rb3 : RB0 s3 ((2, 116) :: (123, 0) :: (FT a1 ++ (FT a2 ++ (125, 0) :: (319, 4013887680740) :: (2, 117) :: (123, 0) :: (FT a3 ++ (FT a4 ++ [(125, 0), (0, 0)]))))) 0 0 0 0 0 NW1 C2 V2 (fun _ => []) (fun _ => 0) (fun _ => 0) := by
    refine ⟨r3.can, ?_, ⟨fun k hk => ?_, fun k i hi => absurd hi List.not_mem_nil, fun i hi => absurd hi (Nat.not_lt_zero i), fun _ => List.nodup_nil, fun i hi => absurd hi (Nat.not_lt_zero i), fun p hp => absurd hp (Nat.not_lt_zero p)⟩, fun i hi => absurd hi (Nat.not_lt_zero i)⟩
    · rw [hx1]; exact g3
    · unfold kyV at hk; omega
  obtain ⟨s4, c4, M4, L4, lw4, bl4, Km4, tm4, q4, b4, F4, t4, u4, w4, y4, z4⟩ := th_rd (en := en) (ll := fun _ => 0) h1 h2 rb3 ⟨fun _ _ => Nat.zero_le 1, fun i hi => absurd hi (Nat.not_lt_zero i), fun _ _ => Nat.le_refl 0⟩ (by decide) (by decide) c112.1 (by decide) (fun u hu => absurd hu (Nat.not_lt_zero u)) (l3 0 (by decide)) rfl (by decide) (by decide) (by decide) NW2_ok
  -- the second
  obtain ⟨s5, e5, g5, f5⟩ := x_skipY (en := en) (d := 0) b4.2.1
  have b5 := RB_ad b4 f5 g5
  have lw2 := lw_le b5.2.2.1
  have nl5 : noLc (s5.1 14) (s5.2.1 13) (0 + 1) 117 := fun u hu => by
    obtain rfl : u = 0 := by omega
    refine ⟨lw4.length, by omega, b5.2.2.1.1, fun j hj => ?_⟩
    rw [b5.2.2.1.2.2 j hj]
    intro z
    have hm := b5.2.2.1.2.1
    have z2 : lw4.getD j 0 = 117 := by
      have hb : lw4.getD j 0 < 1000 := by
        simp only [List.mem_cons, List.not_mem_nil, or_false] at hm
        rcases hm with rfl | rfl | rfl | rfl | rfl <;> (match j with
          | 0 => decide
          | 1 => decide
          | n + 2 => exact (by show (0 : Nat) < 1000; decide))
      exact (i64_inj (by omega) (by decide)).mp z
    simp only [List.mem_cons, List.not_mem_nil, or_false] at hm
    rcases hm with rfl | rfl | rfl | rfl | rfl <;> (match j with
      | 0 => exact absurd z2 (by decide)
      | 1 => exact absurd z2 (by decide)
      | n + 2 => exact absurd z2 (by show ¬ (0 : Nat) = 117; decide))
  have l5 : s5.1 14 1 = 0 := by
    rw [f5.1 14 (by decide), z4 1 (by decide) (by decide)]; exact l3 1 (by decide)
  obtain ⟨s6, c6, M6, L6, lw6, bl6, Km6, tm6, q6, b6, F6, t6, u6, w6, y6, z6⟩ := th_rd (en := en) (nt := 1) h3 h4 b5.rb0 F4 (by decide) (by decide) (by exact if_pos rfl) (by decide) nl5 l5 rfl (by omega) (by omega) (by omega) NW3_ok
  have lw6' := lw_le b6.2.2.1
  have d9 : ∀ j, j ≠ 11 → upd (upd C2 11 (nI (0 + 1))) 11 (nI (1 + 1)) j = C2 j := fun j hj => (if_neg hj).trans (if_neg hj)
  have tc4 : ∀ t, tcS s4 L4 t = tcS s5 L4 t := fun t => smN_cg (fun i _ => by rw [f5.1 18 (by decide), f5.1 19 (by decide)])
  obtain ⟨τ, lc, p1, p2, p3, p4⟩ := pg_end (en := en) b6 ⟨F6.1, F6.2.1, fun u hu => by
    have := F6.2.2 u hu
    refine Nat.le_trans this ?_
    by_cases q : u = 1
    · rw [q, at1_s]; exact Nat.le_refl _
    · rw [at1_n q]
      by_cases q0 : u = 0
      · rw [q0, at1_s]; exact Nat.le_refl _
      · rw [at1_n q0]; exact Nat.zero_le 8⟩ ((d9 9 (by decide)).trans c92) ((d9 10 (by decide)).trans c102) (if_pos rfl) ((d9 8 (by decide)).trans (c112.2.trans (k1 8 (by decide) (by decide)))) hV2 (fun t ht => by
    have : t = 0 ∨ t = 1 := by omega
    rcases this with rfl | rfl
    · exact ⟨lw4.length, lw2, by rw [z6 0 (by decide) (by decide)]; exact b5.2.2.1.1⟩
    · exact ⟨lw6.length, lw6', b6.2.2.1.1⟩) (fun t ht => by
    have h6 := t6 t (by omega)
    have h4 := t4 t (by omega)
    rw [tc4] at h4
    have h0 : tcS s3 0 t = 0 := rfl
    rw [h0] at h4
    have : t = 0 ∨ t = 1 := by omega
    rcases this with rfl | rfl
    · rw [if_neg (by decide)] at h6
      rw [if_pos rfl] at h4; omega
    · rw [if_pos rfl] at h6
      rw [if_neg (by decide)] at h4; omega)
  refine ⟨τ, L6, lc, bl6, Km6, tm6, fun D hD => ?_, p2, p3, p4, by omega, by omega⟩
  obtain ⟨D, rfl⟩ : ∃ z, D = z + 1 := ⟨D - 1, by omega⟩
  refine le_X6_readProgram en _ _ _ ?_
  rw [show qev en D 81 [.ref 11] s = _ from qev_up (D := D) (D - 2) 2 (by omega) (x_clearP (d := 0)), bV_some, qev_up (D := D) (D - 10) 10 (by omega) e1, bV_some]
  refine a2' D (by omega) _ (ld_T k2 (by decide) e3 q4 D (by omega) _ (ld_T b4.2.1 (by decide) e5 q6 D (by omega) _ ?_))
  exact ld_E b6.2.1 (by decide) D _ (p1 D (by omega))
end PGQ
