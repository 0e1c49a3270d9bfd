/-! THE READER, the class's own: each of the law's sixteen statements. -/
section STA
variable {en : pN} {th c M L k v i j nt v5 n o l z v4 : Nat} {NW : Nat → Nat} {C V : fI} {s : qS} {K : List (Nat × Nat)} {lw : List Nat} {bl : Nat → List Nat} {Km tm ll : Nat → Nat} {b e : Nat × Nat}
theorem hs_STn (hn : NWc NW) (ho : ceW o v) (hc : c < 400) (hM : M < 400) (hL : L < 100) (ht : th < 4) : HST en th c M L NW C V lw 1 ((2, v) :: (61, 0) :: (3, n) :: (59, 0) :: b :: K) (b :: K) 2 := fun s2 r g w nw =>
  x_STORE (o := o) r g (List.cons_ne_nil _ _) (fun s1 A1 r' g' => x_expN r' g' w hc hM rfl) hn ho hL nw ht
theorem hs_STl (hn : NWc NW) (ho : ceW o v) (hl : l = 112 ∨ l = 113) (hc : c < 400) (hM : M < 400) (hL : L < 100) (ht : th < 4) : HST en th c M L NW C V lw 1 ((2, v) :: (61, 0) :: (2, l) :: (59, 0) :: b :: K) (b :: K) 2 := fun s2 r g w nw =>
  x_STORE (o := o) r g (List.cons_ne_nil _ _) (fun s1 A1 r' g' => x_expL r' g' w hl hn hc hM rfl) hn ho hL nw ht
theorem hs_LD (hn : NWc NW) (ho : ceW o v) (hl : l = 112 ∨ l = 113) (hL : L < 100) : HST en th c M L NW C V lw 1 ((2, l) :: (61, 0) :: (2, v) :: (59, 0) :: b :: K) (b :: K) 1 := fun s2 r g w nw => x_LOAD r g w hn hl ho hL nw
theorem hs_SP (hn : NWc NW) (hc : c + 3 < 400) (hM : M + 3 < 400) (hL : L < 100) : HST en th c M L NW C V lw 1 ((2, 112) :: (61, 0) :: (2, 112) :: (43, 0) :: (3, 1) :: (59, 0) :: b :: K) (b :: K) 0 := fun s2 r g w nw =>
  x_SET r g (Or.inr ⟨rfl, Or.inl rfl⟩) (fun CL LD lw w' s1 A1 r' g' => x_expP r' g' w' (Or.inl rfl) hn hc hM rfl (Or.inl rfl)) w hn (Or.inl rfl) hL nw
theorem hs_LK (hn : NWc NW) (ho : lkW o v) (hz : (z = 302 ∧ k = 5) ∨ (z = 303 ∧ k = 6)) (hL : L < 100) : HST en th c M L NW C V lw 1 ((z, v4) :: (2, v) :: (59, 0) :: b :: K) (b :: K) k := fun s2 r g w nw => x_LOCK r g w hn ho hz hL nw
/-- a row of locks, a line, unlocks -/
theorem st_FT (hm : n < 16) (h : RB s (FT n ++ e :: K) th c M L nt NW C V lw bl Km tm) (hF : FLs L bl Km ll) (hn : NWc NW) (hth : th < nt) (hnt : nt ≤ 4) (hL : L ≤ 30) (hc : c ≤ 200) (hM : M ≤ 200) (hv : v5 ≤ 90) : STr en th c M L nt NW C V bl ll v5 s (e :: K) 4 1 := by
  have mC : ∀ o v, ceW o v → mayT 2 v := fun o v ho => Or.inl ⟨rfl, Or.inl ⟨o, ho⟩⟩
  have mP : mayT 2 112 := Or.inl ⟨rfl, Or.inr (Or.inl rfl)⟩
  have mQ : mayT 2 113 := Or.inl ⟨rfl, Or.inr (Or.inr rfl)⟩
  have m3 : ∀ k v, 300 ≤ k → k ≤ 315 → mayT k v := fun k v h1 h2 => Or.inr ⟨h1, h2⟩
  have L1 : L < 100 := by omega
  have n2 : (2 : Nat) ≠ 125 := by decide
  have c4 : c < 400 := by omega
  have M4 : M < 400 := by omega
  have v4 : v5 ≤ 100 := by omega
  have th4 : th < 4 := by omega
  have hcs : n = 0 ∨ n = 1 ∨ n = 2 ∨ n = 3 ∨ n = 4 ∨ n = 5 ∨ n = 6 ∨ n = 7 ∨ n = 8 ∨ n = 9 ∨ n = 10 ∨ n = 11 ∨ n = 12 ∨ n = 13 ∨ n = 14 ∨ n = 15 := by omega
  rcases hcs with rfl | rfl | rfl | rfl | rfl | rfl | rfl | rfl | rfl | rfl | rfl | rfl | rfl | rfl | rfl | rfl
  · have h' : RB s ((2, 120) :: (61, 0) :: (3, 1) :: (59, 0) :: e :: K) th c M L nt NW C V lw bl Km tm := h
    exact STr_mo (STr_one (k := 2) (w := 1) h' hF hn hth hnt L1 (mC 0 120 (by decide)) v4 n2 (hs_STn (o := 0) hn (by decide) c4 M4 L1 th4) (by decide) (fun _ => Nat.le_refl _)) (by decide) (by decide)
  · have h' : RB s ((2, 112) :: (61, 0) :: (2, 120) :: (59, 0) :: e :: K) th c M L nt NW C V lw bl Km tm := h
    exact STr_mo (STr_one (k := 1) (w := 1) h' hF hn hth hnt L1 mP v4 n2 (hs_LD (o := 0) hn (by decide) (Or.inl rfl) L1) (by decide) (fun _ => Nat.le_refl _)) (by decide) (by decide)
  · have h' : RB s ((2, 121) :: (61, 0) :: (2, 112) :: (59, 0) :: e :: K) th c M L nt NW C V lw bl Km tm := h
    exact STr_mo (STr_one (k := 2) (w := 1) h' hF hn hth hnt L1 (mC 1 121 (by decide)) v4 n2 (hs_STl (o := 1) hn (by decide) (Or.inl rfl) c4 M4 L1 th4) (by decide) (fun _ => Nat.le_refl _)) (by decide) (by decide)
  · have h' : RB s ((2, 113) :: (61, 0) :: (2, 121) :: (59, 0) :: e :: K) th c M L nt NW C V lw bl Km tm := h
    exact STr_mo (STr_one (k := 1) (w := 1) h' hF hn hth hnt L1 mQ v4 n2 (hs_LD (o := 1) hn (by decide) (Or.inr rfl) L1) (by decide) (fun _ => Nat.le_refl _)) (by decide) (by decide)
  · have h' : RB s ((302, 228323819) :: (2, 97) :: (59, 0) :: (2, 120) :: (61, 0) :: (2, 112) :: (59, 0) :: (303, 4049845613035) :: (2, 97) :: (59, 0) :: e :: K) th c M L nt NW C V lw bl Km tm := h
    refine STr_mo (n := 1 + 1 + 1) (w := 0 + 1 + 0) (STr_tr (K := (303, 4049845613035) :: (2, 97) :: (59, 0) :: e :: K) (STr_tr (STr_one (k := 5) (w := 0) h' hF hn hth hnt L1 (m3 _ _ (by decide) (by decide)) v4 (by decide) (hs_LK (o := 0) hn (by decide) (by decide) L1) (by decide) (by decide)) (fun s' c' M' L' lw' bl' Km' tm' ll' w5 hb hf h1 h2 h3 h4 => ?_)) (fun s' c' M' L' lw' bl' Km' tm' ll' w5 hb hf h1 h2 h3 h4 => ?_)) (by decide) (by decide)
    · exact STr_one (k := 2) (w := 1) hb hf hn hth hnt (by omega) (mC 0 120 (by decide)) (by omega) n2 (hs_STl (o := 0) hn (by decide) (Or.inl rfl) (by omega) (by omega) (by omega) th4) (by decide) (fun _ => Nat.le_refl _)
    · exact STr_one (k := 6) (w := 0) hb hf hn hth hnt (by omega) (m3 _ _ (by decide) (by decide)) (by omega) (by decide) (hs_LK (o := 0) hn (by decide) (by decide) (by omega)) (by decide) (by decide)
  · have h' : RB s ((301, 1602148) :: (2, 120) :: (44, 0) :: (3, 1) :: (321, 222018159) :: (2, 113) :: (59, 0) :: e :: K) th c M L nt NW C V lw bl Km tm := h
    exact STr_mo (STr_one (k := 4) (w := 1) h' hF hn hth hnt L1 (m3 _ _ (by decide) (by decide)) v4 (by decide) (fun s2 r g w nw => x_ADD (o := 0) r g w (Or.inr rfl) (by decide) hn L1 nw c4 M4) (by decide) (fun _ => Nat.le_refl _)) (by decide) (by decide)
  · have h' : RB s ((300, 1634547) :: (2, 121) :: (44, 0) :: (3, 0) :: (44, 0) :: (3, 3) :: (321, 222018159) :: (2, 112) :: (59, 0) :: e :: K) th c M L nt NW C V lw bl Km tm := h
    exact STr_mo (STr_one (k := 3) (w := 1) h' hF hn hth hnt L1 (m3 _ _ (by decide) (by decide)) v4 (by decide) (fun s2 r g w nw => x_CAS (o := 1) r g w (Or.inl rfl) (by decide) hn L1 (by omega) (by omega)) (by decide) (fun _ => Nat.le_refl _)) (by decide) (by decide)
  · have h' : RB s ((309, 27594043877) :: (59, 0) :: e :: K) th c M L nt NW C V lw bl Km tm := h
    exact STr_mo (STr_one (k := 12) (w := 1) h' hF hn hth hnt L1 (m3 _ _ (by decide) (by decide)) v4 (by decide) (fun s2 r g w nw => x_FENCE r g w hn L1 nw) (by decide) (fun _ => Nat.le_refl _)) (by decide) (by decide)
  · exact STr_mo (STr_if h hF hn hth hnt (by omega) (by omega) (by omega) v4) (by decide) (by decide)
  · have h' : RB s ((2, 112) :: (61, 0) :: (2, 112) :: (43, 0) :: (3, 1) :: (59, 0) :: e :: K) th c M L nt NW C V lw bl Km tm := h
    exact STr_mo (STr_one (k := 0) (w := 1) h' hF hn hth hnt L1 mP v4 n2 (hs_SP hn (by omega) (by omega) L1) (by decide) (fun _ => Nat.le_refl _)) (by decide) (by decide)
  · have h' : RB s ((2, 122) :: (61, 0) :: (2, 113) :: (59, 0) :: e :: K) th c M L nt NW C V lw bl Km tm := h
    exact STr_mo (STr_one (k := 2) (w := 1) h' hF hn hth hnt L1 (mC 2 122 (by decide)) v4 n2 (hs_STl (o := 2) hn (by decide) (Or.inr rfl) c4 M4 L1 th4) (by decide) (fun _ => Nat.le_refl _)) (by decide) (by decide)
  · have h' : RB s ((2, 113) :: (61, 0) :: (2, 122) :: (59, 0) :: e :: K) th c M L nt NW C V lw bl Km tm := h
    exact STr_mo (STr_one (k := 1) (w := 1) h' hF hn hth hnt L1 mQ v4 n2 (hs_LD (o := 2) hn (by decide) (Or.inr rfl) L1) (by decide) (fun _ => Nat.le_refl _)) (by decide) (by decide)
  · have h' : RB s ((302, 228323819) :: (2, 98) :: (59, 0) :: (2, 113) :: (61, 0) :: (2, 120) :: (59, 0) :: (303, 4049845613035) :: (2, 98) :: (59, 0) :: e :: K) th c M L nt NW C V lw bl Km tm := h
    refine STr_mo (n := 1 + 1 + 1) (w := 0 + 1 + 0) (STr_tr (K := (303, 4049845613035) :: (2, 98) :: (59, 0) :: e :: K) (STr_tr (STr_one (k := 5) (w := 0) h' hF hn hth hnt L1 (m3 _ _ (by decide) (by decide)) v4 (by decide) (hs_LK (o := 1) hn (by decide) (by decide) L1) (by decide) (by decide)) (fun s' c' M' L' lw' bl' Km' tm' ll' w5 hb hf h1 h2 h3 h4 => ?_)) (fun s' c' M' L' lw' bl' Km' tm' ll' w5 hb hf h1 h2 h3 h4 => ?_)) (by decide) (by decide)
    · exact STr_one (k := 1) (w := 1) hb hf hn hth hnt (by omega) mQ (by omega) n2 (hs_LD (o := 0) hn (by decide) (Or.inr rfl) (by omega)) (by decide) (fun _ => Nat.le_refl _)
    · exact STr_one (k := 6) (w := 0) hb hf hn hth hnt (by omega) (m3 _ _ (by decide) (by decide)) (by omega) (by decide) (hs_LK (o := 1) hn (by decide) (by decide) (by omega)) (by decide) (by decide)
  · have h' : RB s ((311, 3364007541108) :: (2, 113) :: (60, 0) :: (3, 9) :: (59, 0) :: e :: K) th c M L nt NW C V lw bl Km tm := h
    exact STr_mo (STr_one (k := 14) (w := 1) h' hF hn hth hnt L1 (m3 _ _ (by decide) (by decide)) v4 (by decide) (fun s2 r g w nw => x_ASSERT r g (Or.inr rfl) (fun s1 A1 r' g' => x_expP r' g' w (Or.inr rfl) hn (by omega) (by omega) rfl (Or.inr rfl)) hn L1 nw) (by decide) (fun _ => Nat.le_refl _)) (by decide) (by decide)
  · have h' : RB s ((2, 121) :: (61, 0) :: (3, 7) :: (59, 0) :: e :: K) th c M L nt NW C V lw bl Km tm := h
    exact STr_mo (STr_one (k := 2) (w := 1) h' hF hn hth hnt L1 (mC 1 121 (by decide)) v4 n2 (hs_STn (o := 1) hn (by decide) c4 M4 L1 th4) (by decide) (fun _ => Nat.le_refl _)) (by decide) (by decide)
  · have h' : RB s ((302, 228323819) :: (2, 97) :: (59, 0) :: (302, 228323819) :: (2, 98) :: (59, 0) :: (303, 4049845613035) :: (2, 98) :: (59, 0) :: (303, 4049845613035) :: (2, 97) :: (59, 0) :: e :: K) th c M L nt NW C V lw bl Km tm := h
    refine STr_mo (n := 1 + 1 + 1 + 1) (w := 0 + 0 + 0 + 0) (STr_tr (K := (303, 4049845613035) :: (2, 97) :: (59, 0) :: e :: K) (STr_tr (K := (303, 4049845613035) :: (2, 98) :: (59, 0) :: (303, 4049845613035) :: (2, 97) :: (59, 0) :: e :: K) (STr_tr (STr_one (k := 5) (w := 0) h' hF hn hth hnt L1 (m3 _ _ (by decide) (by decide)) v4 (by decide) (hs_LK (o := 0) hn (by decide) (by decide) L1) (by decide) (by decide)) (fun s' c' M' L' lw' bl' Km' tm' ll' w5 hb hf h1 h2 h3 h4 => ?_)) (fun s' c' M' L' lw' bl' Km' tm' ll' w5 hb hf h1 h2 h3 h4 => ?_)) (fun s' c' M' L' lw' bl' Km' tm' ll' w5 hb hf h1 h2 h3 h4 => ?_)) (by decide) (by decide)
    · exact STr_one (k := 5) (w := 0) hb hf hn hth hnt (by omega) (m3 _ _ (by decide) (by decide)) (by omega) (by decide) (hs_LK (o := 1) hn (by decide) (by decide) (by omega)) (by decide) (by decide)
    · exact STr_one (k := 6) (w := 0) hb hf hn hth hnt (by omega) (m3 _ _ (by decide) (by decide)) (by omega) (by decide) (hs_LK (o := 1) hn (by decide) (by decide) (by omega)) (by decide) (by decide)
    · exact STr_one (k := 6) (w := 0) hb hf hn hth hnt (by omega) (m3 _ _ (by decide) (by decide)) (by omega) (by decide) (hs_LK (o := 0) hn (by decide) (by decide) (by omega)) (by decide) (by decide)
end STA
