/-! THE READER, the class's own: the header of the law's programs. -/
def NW0 : Nat → Nat := fun _ => 0
def NW1 : Nat → Nat := at1 (at1 (at1 (at1 (at1 NW0 0 120) 1 121) 2 122) (8 + 0) 97) (8 + 1) 98
def NW2 : Nat → Nat := at1 NW1 (12 + 0) 116
def NW3 : Nat → Nat := at1 NW2 (12 + 1) 117
section HDE
variable {en : pN} {v w : Nat} {C V CL H : fI} {LD : Nat → Int64} {A : Nat → fI} {O Q : fI} {s s1 s2 : qS} {K : List (Nat × Nat)} {b : Nat × Nat}
theorem NW2_ok : NWc NW2 := by
  unfold NWc
  refine ⟨by decide, by decide, by decide, by decide, by decide, by decide, by decide⟩
theorem NW3_ok : NWc NW3 := by
  unfold NWc
  refine ⟨by decide, by decide, by decide, by decide, by decide, by decide, by decide⟩
theorem hd_rd (h : RSb s 0 0 0 0 NW0 C V CL H LD A O Q) (hk : LKs s (HDT ++ b :: K)) (h9 : C 9 = nI 0) (h10 : C 10 = nI 0) (h11 : C 11 = nI 0) (hV : ∀ c, c < 8 → V c = 0) :
    ∃ (s' : qS) (C' V' : fI), (∀ D, 130 ≤ D → ∀ r, L_X6_readProgram_21 en D (nI 5) s' = some r → L_X6_readProgram_21 en D (nI 0) s = some r) ∧ LKs s' ((319, 4013887680740) :: (2, 116) :: (123, 0) :: b :: K) ∧ RSb s' 0 0 0 0 NW1 C' V' CL H LD A O Q ∧ C' 9 = nI 3 ∧ C' 10 = nI 2 ∧ (C' 11 = nI 0 ∧ C' 8 = C 8) ∧ ∀ c, c < 8 → V' c = 0 := by
  have hk0 : LKs s ((317, 209286764) :: (2, 120) :: (59, 0) :: (317, 209286764) :: (2, 121) :: (59, 0) :: (317, 209286764) :: (2, 122) :: (318, 66920014801434213) :: (59, 0) :: (302, 228323819) :: (2, 97) :: (59, 0) :: (302, 228323819) :: (2, 98) :: (59, 0) :: (319, 4013887680740) :: (2, 116) :: (123, 0) :: b :: K) := hk
  obtain ⟨s1, e1, g1, f1⟩ := x_skipY (en := en) (d := 0) hk0
  obtain ⟨t1, C1, V1, T1, a1, -, k1, r1, c91, c101, c111, v1, hT1⟩ := x_rdC (en := en) (z := 0) (v2 := 0) (RSb_ad h f1) g1 (by decide) (by decide) h9 (by decide) h11 (fun _ => trivial) ⟨_, _, Or.inl ⟨rfl, rfl⟩⟩
  obtain rfl := hT1 _ rfl
  obtain ⟨s2, e2, g2, f2⟩ := x_skipY (en := en) (d := 0) k1
  obtain ⟨t2, C2, V2, T2, a2, -, k2, r2, c92, c102, c112, v2, hT2⟩ := x_rdC (en := en) (z := 0) (v2 := 0) (RSb_ad r1 f2) g2 (by decide) (by decide) c91 (by decide) (c111.1.trans h11) (fun _ => trivial) ⟨_, _, Or.inl ⟨rfl, rfl⟩⟩
  obtain rfl := hT2 _ rfl
  obtain ⟨s3, e3, g3, f3⟩ := x_skipY (en := en) (d := 0) k2
  obtain ⟨t3, C3, V3, T3, a3, -, k3, r3, c93, c103, c113, v3, hT3⟩ := x_rdC (en := en) (z := 0) (v2 := 66920014801434213) (RSb_ad r2 f3) g3 (by decide) (by decide) c92 (by decide) ((c112.1.trans c111.1).trans h11) (fun _ => trivial) ⟨_, _, Or.inr ⟨rfl, rfl⟩⟩
  obtain rfl := hT3 _ rfl
  have k3' : LKs t3 ((302, 228323819) :: (2, 97) :: (59, 0) :: (302, 228323819) :: (2, 98) :: (59, 0) :: (319, 4013887680740) :: (2, 116) :: (123, 0) :: b :: K) := k3
  obtain ⟨s4, e4, g4, f4⟩ := x_skipY (en := en) (d := 0) k3'
  have c10 : C3 10 = nI 0 := (c103.trans c102).trans (c101.trans h10)
  have c11 : C3 11 = nI 0 := (c113.1.trans c112.1).trans (c111.1.trans h11)
  obtain ⟨t4, C4, a4, k4, r4, c94, c104, c114⟩ := x_rdK (en := en) (nl := 0) (RSb_ad r3 f4) g4 (by decide) (by decide) c10 (by decide) c11
  obtain ⟨s5, e5, g5, f5⟩ := x_skipY (en := en) (d := 0) k4
  obtain ⟨t5, C5, a5, k5, r5, c95, c105, c115⟩ := x_rdK (en := en) (nl := 1) (RSb_ad r4 f5) g5 (by decide) (by decide) c104 (by decide) (c114.1.trans c11)
  refine ⟨t5, C5, V3, fun D hD r hr => ?_, k5, r5, ?_, c105, ?_, fun c hc => ?_⟩
  · exact ld_C hk0 (by decide) e1 a1 D hD r (ld_C k1 (by decide) e2 a2 D hD r (ld_C k2 (by decide) e3 a3 D hD r (ld_K k3' (by decide) e4 a4 D hD r (ld_K k4 (by decide) e5 a5 D hD r hr))))
  · exact (c95.trans c94).trans c93
  · exact ⟨(c115.1.trans c114.1).trans c11, ((c115.2.trans c114.2).trans (c113.2.trans c112.2)).trans c111.2⟩
  · rw [v3 c hc]
    split
    · rfl
    · rw [v2 c hc]
      split
      · rfl
      · rw [v1 c hc]
        split
        · rfl
        · exact hV c hc
end HDE
