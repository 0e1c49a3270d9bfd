/-! CHANCES, both sides. -/
section CHA
variable {en : pN} {d d' p w nc nl nt n t k r m o q u : Nat} {P : Nat → fI} {σ σ' σ0 s τ : qS} {F F' F0 N sr y g : fI} {D : Int64} {L : Nat → Nat} {X : xT} {fw : Bool} {a b c : Int32}
/-- the numbers drawn of a row -/
def dr0 (dd k r : Nat) : Nat := if dd ≤ 1 then 0 else 1 + r % k
def dr1 (dd k r : Nat) : Nat := if dd ≤ 2 then 0 else 1 + r / k
def rowsN (dd k : Nat) : Nat := if dd = 1 then 1 else if dd = 2 then k else k * k
theorem rows_cnt {dd k : Nat} {h : Nat → Nat → Nat} (hk : 1 ≤ k) (hd : 1 ≤ dd ∧ dd ≤ 3) (hh : ∀ i j, h i j = h j i) : smN (fun r => h (dr0 dd k (0 + r)) (dr1 dd k (0 + r))) (rowsN dd k) = cntC dd k h := by
  unfold rowsN cntC
  by_cases d1 : dd = 1
  · rw [if_pos d1, if_pos d1]
    show 0 + h (dr0 dd k (0 + 0)) (dr1 dd k (0 + 0)) = _
    unfold dr0 dr1
    rw [if_pos (by omega), if_pos (by omega), Nat.zero_add]
  · rw [if_neg d1, if_neg d1]
    by_cases d2 : dd = 2
    · rw [if_pos d2, if_pos d2]
      refine smN_cg fun i hi => ?_
      unfold dr0 dr1
      rw [if_neg (by omega), if_pos (by omega), Nat.zero_add, Nat.mod_eq_of_lt hi, Nat.add_comm]
    · rw [if_neg d2, if_neg d2]
      have e1 : smN (fun r => h (dr0 dd k (0 + r)) (dr1 dd k (0 + r))) (k * k) = smN (fun r => (fun i j => h (i + 1) (j + 1)) (r % k) (r / k)) (k * k) := smN_cg fun i _ => by
        unfold dr0 dr1
        rw [if_neg (by omega), if_neg (by omega), Nat.zero_add, Nat.add_comm 1, Nat.add_comm 1]
      refine (e1.trans (sm_rows (F := fun i j => h (i + 1) (j + 1)) hk k)).trans ((sm_half (F := fun i j => h (i + 1) (j + 1)) (fun i j => hh _ _) k).trans (smN_cg fun i _ => smN_cg fun j _ => ?_))
      show _ * h (i + 1) (i + j + 1) = _ * h (i + 1) (i + 1 + j)
      rw [show i + j + 1 = i + 1 + j by omega]
theorem xcF.Fl (h : xcF P w nc nl nt p fw X σ F) (h5 : F' 5 = F 5) (h6 : F' 6 = F 6) (h8 : F' 8 = F 8) : xcF P w nc nl nt p fw X σ F' := by
  obtain ⟨⟨⟨a1, a2, a3, a4, a5⟩, d1⟩, z⟩ := h
  exact ⟨⟨⟨a1, ⟨by rw [h5]; exact a2.1, a2.2⟩, by rw [h6]; exact a3, by rw [h8]; exact a4, a5⟩, d1⟩, z⟩
/-- what chances may change -/
abbrev frCx (τ τ' : qS) : Prop := (∀ c, c ≠ 7 → c ≠ 10 → c ≠ 71 → c ≠ 72 → c ≠ 95 → τ'.1 c = τ.1 c) ∧ (∀ j, j ≠ 4 → τ'.1 7 j = τ.1 7 j) ∧ (∀ a, a ≠ 94 → τ'.2.1 a = τ.2.1 a) ∧ τ'.2.2 = τ.2.2
end CHA

