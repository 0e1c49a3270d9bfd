/-! THE READER, the class's own: the law's statements in a thread's block. -/
/-- blocks are flat: within an if one line each; threads' blocks have so many lines at most -/
abbrev FLs (L : Nat) (bl : Nat → List Nat) (Km : Nat → Nat) (ll : Nat → Nat) : Prop := (∀ k, 4 ≤ k → (bl k).length ≤ 1) ∧ (∀ i, i < L → Km i < 4 ∨ Km ((Km i - 4) / 2) < 4) ∧ ∀ u, u < 4 → (bl u).length ≤ ll u
/-- a simple statement stands there -/
abbrev HST (en : pN) (th c M L : Nat) (NW : Nat → Nat) (C V : fI) (lw : List Nat) (v1 : Int32) (T K' : List (Nat × Nat)) (k : Nat) : Prop := ∀ s2, RSs s2 th c M (L + 1) NW C V → LKs s2 T → LWc (s2.1 14) (s2.2.1 13) th lw → NWL (fun f => s2.1 (18 + f)) L → SRes en th c M (L + 1) NW C V (s2.1 14) (s2.1 16) (s2.2.1 13) (fun f => s2.1 (18 + f)) (s2.1 8) (s2.1 9) lw L v1 s2 K' k
/-- what comes of some statements -/
abbrev STr (en : pN) (th c M L nt : Nat) (NW : Nat → Nat) (C V : fI) (bl : Nat → List Nat) (ll : Nat → Nat) (v5 : Nat) (s : qS) (K : List (Nat × Nat)) (n w : Nat) : Prop :=
  ∃ (s' : qS) (c' M' L' : Nat) (lw' : List Nat) (bl' : Nat → List Nat) (Km' tm' : Nat → Nat) (w5 : Nat), (∀ D, 90 ≤ D → ∀ r, L_X6_readBlock_35 en D 1 (-1) 0 (lstX (bl' th) (-1)) (nI w5) s' = some r → L_X6_readBlock_35 en D 1 (-1) 0 (lstX (bl th) (-1)) (nI v5) s = some r) ∧ RB s' K th c' M' L' nt NW C V lw' bl' Km' tm' ∧ FLs L' bl' Km' (at1 ll th (ll th + n)) ∧ (∀ t, t < 4 → tcS s' L' t ≤ tcS s L t + if t = th then w else 0) ∧ c' ≤ c + 6 * n ∧ M' ≤ M + 6 * n ∧ (L' ≤ L + n ∧ L < L') ∧ w5 ≤ v5 + n ∧ ∀ u, u < 4 → u ≠ th → s'.1 14 u = s.1 14 u
section STF
variable {en : pN} {d th c M L N k v i j nt v5 m n w n' w' : Nat} {NW : Nat → Nat} {C V : fI} {s s' s1 s2 : qS} {K K' T : List (Nat × Nat)} {lw : List Nat} {x z pt : Int32} {bl : Nat → List Nat} {Km tm ll : Nat → Nat} {e : Nat × Nat}
theorem FLs_add (h : FLs L bl Km ll) (hi : ∀ k i, i ∈ bl k → i < L ∧ Km i = k) (ht : th < 4) : FLs (L + 1) (at1 bl th (bl th ++ [L])) (at1 Km L th) (at1 ll th (ll th + 1)) := by
  refine ⟨fun k hk => ?_, fun i hi => ?_, fun u hu => ?_⟩
  · rw [at1_n (by omega)]; exact h.1 k hk
  · by_cases q : i = L
    · rw [q, at1_s]; exact Or.inl ht
    · rw [at1_n q]
      rcases h.2.1 i (by omega) with a | a
      · exact Or.inl a
      · right
        by_cases q2 : (Km i - 4) / 2 = L
        · rw [q2, at1_s]; exact ht
        · rw [at1_n q2]; exact a
  · by_cases q : u = th
    · rw [q, at1_s, at1_s, List.length_append]
      exact Nat.succ_le_succ (h.2.2 th ht)
    · rw [at1_n q, at1_n q]; exact h.2.2 u hu
/-- one simple statement -/
theorem st_1 (h : RB s ((N, v) :: K) th c M L nt NW C V lw bl Km tm) (hF : FLs L bl Km ll) (hn : NWc NW) (hth : th < nt) (hnt : nt ≤ 4) (hL : L < 100) (hm : mayT N v) (hv : v5 ≤ 100) (h125 : N ≠ 125) (hst : HST en th c M L NW C V lw 1 ((N, v) :: K) K' k) (hk : k < 19) (hw : 1 ≤ k ∧ k ≤ 4 → 1 ≤ w) :
    ∃ s' c' M' lw', (∀ D, 90 ≤ D → ∀ r, L_X6_readBlock_35 en D 1 (-1) 0 (lstX (at1 bl th (bl th ++ [L]) th) (-1)) (nI (v5 + 1)) s' = some r → L_X6_readBlock_35 en D 1 (-1) 0 (lstX (bl th) (-1)) (nI v5) s = some r) ∧ RB s' K' th c' M' (L + 1) nt NW C V lw' (at1 bl th (bl th ++ [L])) (at1 Km L th) (at1 tm L th) ∧ FLs (L + 1) (at1 bl th (bl th ++ [L])) (at1 Km L th) (at1 ll th (ll th + 1)) ∧ (∀ t, t < 4 → tcS s' (L + 1) t ≤ tcS s L t + if t = th then w else 0) ∧ c' ≤ c + 6 ∧ M' ≤ M + 6 ∧ ∀ u, u < 4 → u ≠ th → s'.1 14 u = s.1 14 u := by
  obtain ⟨s', c', M', lw', i1, i2, i3, i4, i5, i6, i7⟩ := it_S (en := en) (pa := -1) (pt := 0) (v1 := 1) (key := th) h hn hth hnt hL (Or.inl ⟨rfl, rfl⟩) (fun p hp => by omega) hm hv h125 hst
  refine ⟨s', c', M', lw', fun D hD r hr => i1 D (by omega) r ?_, i2, FLs_add hF h.2.2.2.1.2.1 (by omega), fun t ht => ?_, i3, i4, i5.2⟩
  · rw [at1_s, lstX_snoc] at hr; exact hr
  · rw [tcS_add (s := s) i5.1 i6 i7 hk (by omega) ht]
    by_cases q : t = th
    · by_cases q2 : 1 ≤ k ∧ k ≤ 4
      · rw [if_pos ⟨q, q2⟩, if_pos q]; exact Nat.add_le_add_left (hw q2) _
      · rw [if_neg (fun z => q2 z.2), if_pos q]; omega
    · rw [if_neg (fun z => q z.1), if_neg q]; exact Nat.le_refl _
theorem STr_one (h : RB s ((N, v) :: K) th c M L nt NW C V lw bl Km tm) (hF : FLs L bl Km ll) (hn : NWc NW) (hth : th < nt) (hnt : nt ≤ 4) (hL : L < 100) (hm : mayT N v) (hv : v5 ≤ 100) (h125 : N ≠ 125) (hst : HST en th c M L NW C V lw 1 ((N, v) :: K) K' k) (hk : k < 19) (hw : 1 ≤ k ∧ k ≤ 4 → 1 ≤ w) : STr en th c M L nt NW C V bl ll v5 s K' 1 w := by
  obtain ⟨s', c', M', lw', i1, i2, i3, i4, i5, i6, i7⟩ := st_1 h hF hn hth hnt hL hm hv h125 hst hk hw
  exact ⟨s', c', M', L + 1, lw', _, _, _, v5 + 1, i1, i2, i3, i4, by omega, by omega, ⟨Nat.le_refl _, Nat.lt_succ_self _⟩, Nat.le_refl _, i7⟩
/-- some, then some more -/
theorem STr_tr (h : STr en th c M L nt NW C V bl ll v5 s K n w) (g : ∀ s' c' M' L' lw' bl' Km' tm' ll' w5, RB s' K th c' M' L' nt NW C V lw' bl' Km' tm' → FLs L' bl' Km' ll' → c' ≤ c + 6 * n → M' ≤ M + 6 * n → L' ≤ L + n → w5 ≤ v5 + n → STr en th c' M' L' nt NW C V bl' ll' w5 s' K' n' w') : STr en th c M L nt NW C V bl ll v5 s K' (n + n') (w + w') := by
  obtain ⟨s1, c1, M1, L1, lw1, bl1, Km1, tm1, w1, a1, a2, a3, a4, a5, a6, a7, a8, a9⟩ := h
  obtain ⟨s2, c2, M2, L2, lw2, bl2, Km2, tm2, w2, b1, b2, b3, b4, b5, b6, b7, b8, b9⟩ := g _ _ _ _ _ _ _ _ _ _ a2 a3 a5 a6 a7.1 a8
  refine ⟨s2, c2, M2, L2, lw2, bl2, Km2, tm2, w2, fun D hD r hr => a1 D hD r (b1 D hD r hr), b2, ?_, fun t ht => ?_, by omega, by omega, by omega, by omega, fun u hu hn => (b9 u hu hn).trans (a9 u hu hn)⟩
  · refine ⟨b3.1, b3.2.1, fun u hu => ?_⟩
    have := b3.2.2 u hu
    by_cases q : u = th
    · rw [q, at1_s, at1_s] at this
      rw [q, at1_s]; omega
    · rw [at1_n q, at1_n q] at this
      rw [at1_n q]; exact this
  · have h1 := a4 t ht
    have h2 := b4 t ht
    by_cases q : t = th
    · rw [if_pos q] at h1 h2 ⊢; omega
    · rw [if_neg q] at h1 h2 ⊢; omega
theorem STr_mo (h : STr en th c M L nt NW C V bl ll v5 s K n w) (hn : n ≤ n') (hw : w ≤ w') : STr en th c M L nt NW C V bl ll v5 s K n' w' := by
  obtain ⟨s1, c1, M1, L1, lw1, bl1, Km1, tm1, w1, a1, a2, a3, a4, a5, a6, a7, a8, a9⟩ := h
  refine ⟨s1, c1, M1, L1, lw1, bl1, Km1, tm1, w1, a1, a2, ⟨a3.1, a3.2.1, fun u hu => ?_⟩, fun t ht => ?_, by omega, by omega, by omega, by omega, a9⟩
  · have := a3.2.2 u hu
    by_cases q : u = th
    · rw [q, at1_s] at this
      rw [q, at1_s]; omega
    · rw [at1_n q] at this
      rw [at1_n q]; exact this
  · have h1 := a4 t ht
    by_cases q : t = th
    · rw [if_pos q] at h1 ⊢; omega
    · rw [if_neg q] at h1 ⊢; omega
/-- the if -/
theorem STr_if (h : RB s (FT 8 ++ e :: K) th c M L nt NW C V lw bl Km tm) (hF : FLs L bl Km ll) (hn : NWc NW) (hth : th < nt) (hnt : nt ≤ 4) (hL : L + 3 ≤ 100) (hc : c + 30 < 400) (hM : M + 30 < 400) (hv : v5 ≤ 100) : STr en th c M L nt NW C V bl ll v5 s (e :: K) 3 1 := by
  have hT := h.2.2.2.1
  obtain ⟨s', c', M', lw', i1, i2, i3, i4, i5, ⟨k1, k2, k3⟩, t1, t2, t3⟩ := it_IF (en := en) (pt := 0) h hn hth hnt hL hc hM hv
  refine ⟨s', c', M', L + 3, lw', _, _, _, v5 + 1, fun D hD r hr => i1 D hD r ?_, i2, ⟨fun k hk => ?_, fun i hi => ?_, fun u hu => ?_⟩, fun t ht => ?_, by omega, by omega, ⟨Nat.le_refl _, by omega⟩, by omega, i5.2⟩
  · rw [at1_n (by omega), at1_n (by omega), at1_s, lstX_snoc] at hr; exact hr
  · by_cases q : k = 5 + 2 * L
    · rw [q, at1_s]; exact Nat.le_refl _
    · rw [at1_n q]
      by_cases q2 : k = 4 + 2 * L
      · rw [q2, at1_s]; exact Nat.le_refl _
      · rw [at1_n q2, at1_n (by omega)]; exact hF.1 k hk
  · have eL : at1 (at1 (at1 Km L th) (L + 1) (4 + 2 * L)) (L + 2) (5 + 2 * L) L = th := by rw [at1_n (by omega), at1_n (by omega), at1_s]
    by_cases q : i = L + 2
    · right
      have e1 : at1 (at1 (at1 Km L th) (L + 1) (4 + 2 * L)) (L + 2) (5 + 2 * L) i = 5 + 2 * L := by rw [q, at1_s]
      rw [e1, show (5 + 2 * L - 4) / 2 = L by omega, eL]; omega
    by_cases q2 : i = L + 1
    · right
      have e1 : at1 (at1 (at1 Km L th) (L + 1) (4 + 2 * L)) (L + 2) (5 + 2 * L) i = 4 + 2 * L := by rw [q2, at1_n (by omega), at1_s]
      rw [e1, show (4 + 2 * L - 4) / 2 = L by omega, eL]; omega
    by_cases q3 : i = L
    · left
      rw [q3, eL]; omega
    have e1 : at1 (at1 (at1 Km L th) (L + 1) (4 + 2 * L)) (L + 2) (5 + 2 * L) i = Km i := by rw [at1_n q, at1_n q2, at1_n q3]
    rw [e1]
    by_cases q4 : Km i < 4
    · exact Or.inl q4
    · right
      have a := (hF.2.1 i (by omega)).resolve_left q4
      have : (Km i - 4) / 2 < i := by
        rcases (hT.2.2.2.2.1 i (by omega)).2.1 with ⟨y, -⟩ | ⟨p, b, p1, b1, y, -⟩
        · have := (hT.2.2.2.2.1 i (by omega)).1.1; omega
        · omega
      rw [at1_n (by omega), at1_n (by omega), at1_n (by omega)]; exact a
  · have := hF.2.2 u hu
    rw [at1_n (by omega), at1_n (by omega)]
    by_cases q : u = th
    · rw [q, at1_s, at1_s, List.length_append]
      rw [q] at this
      show _ + 1 ≤ _
      omega
    · rw [at1_n q, at1_n q]; exact this
  · -- three lines more, one of them touches a cell
    have e1 := tcS_add (s := s) (s' := s') (t := t) i5.1 k1 t1 (by decide) (by omega) ht
    have e2 := tcS_add (s := s') (s' := s') (L := L + 1) (t := t) (fun _ _ => ⟨rfl, rfl⟩) k2 t2 (by decide) (by omega) ht
    have e3 := tcS_add (s := s') (s' := s') (L := L + 2) (t := t) (fun _ _ => ⟨rfl, rfl⟩) k3 t3 (by decide) (by omega) ht
    rw [if_neg (by omega)] at e1 e3
    have : tcS s' (L + 3) t = tcS s' (L + 2 + 1) t := rfl
    have e2' : tcS s' (L + 2) t = tcS s' (L + 1 + 1) t := rfl
    by_cases q : t = th
    · rw [if_pos ⟨q, by decide⟩] at e2
      rw [if_pos q]; omega
    · rw [if_neg (fun z => q z.1)] at e2
      rw [if_neg q]; omega
end STF
