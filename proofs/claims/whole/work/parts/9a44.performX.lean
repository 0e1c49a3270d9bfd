/-! THE HISTORY, the class's side: what a structure answers. -/
/-- content, size and answer behind a call: st the structure, c whether the call changes, H what it has, z how many, v the call's value -/
def pfm (st : Nat) (c : Bool) (H : fI) (z : Nat) (v : Int32) : fI × Nat × Int32 :=
  if st ≤ 1 then (if c = true then (upd H 0 (if st = 1 then H 0 + v else v), z, if st = 0 then 0 else H 0) else (H, z, H 0))
  else if c = true then (upd H z v, z + 1, 0)
  else if z = 0 then (H, 0, -1)
  else if st = 2 then (H, z - 1, H (z - 1))
  else (fun k => if k < z - 1 then H (k + 1) else H k, z - 1, H 0)
def pS (s : qS) (b e : Nat) (T : fI) (Z : Int32) : qS := (fun a k => if a = b then T k else if a = 147 ∧ k = e then Z else s.1 a k, s.2)
section PF
variable {en : pN} {d i e b st z : Nat} {s : qS} {T H : fI} {Z v x : Int32}
theorem pS_T : (pS s b e T Z).1 b = T := by
  funext k
  exact if_pos rfl
theorem pS_o {a : Nat} (h1 : a ≠ b) (h2 : a ≠ 147) : (pS s b e T Z).1 a = s.1 a := by
  funext k
  show (if a = b then T k else if a = 147 ∧ k = e then Z else s.1 a k) = _
  rw [if_neg h1, if_neg (fun w => h2 w.1)]
theorem pS_wT {k : Nat} : uI (pS s b e T Z) b k v = pS s b e (upd T k v) Z := by
  refine Prod.ext (funext fun a => funext fun j => ?_) rfl
  show (if a = b ∧ j = k then v else if a = b then T j else if a = 147 ∧ j = e then Z else s.1 a j) = (if a = b then (if j = k then v else T j) else if a = 147 ∧ j = e then Z else s.1 a j)
  by_cases q : a = b
  · by_cases w : j = k
    · rw [if_pos ⟨q, w⟩, if_pos q, if_pos w]
    · rw [if_neg (fun y => w y.2), if_pos q, if_pos q, if_neg w]
  · rw [if_neg (fun y => q y.1), if_neg q, if_neg q]
theorem pS_wZ (hb : b ≠ 147) : uI (pS s b e T Z) 147 e v = pS s b e T v := by
  refine Prod.ext (funext fun a => funext fun j => ?_) rfl
  show (if a = 147 ∧ j = e then v else if a = b then T j else if a = 147 ∧ j = e then Z else s.1 a j) = (if a = b then T j else if a = 147 ∧ j = e then v else s.1 a j)
  by_cases q : a = 147 ∧ j = e
  · rw [if_pos q, if_neg (by omega), if_pos q]
  · rw [if_neg q, if_neg q, if_neg q]
theorem pS_wR {f : fI} : uIr (pS s b e T Z) b f = pS s b e f Z := by
  refine Prod.ext (funext fun a => funext fun j => ?_) rfl
  show (if a = b then f j else if a = b then T j else if a = 147 ∧ j = e then Z else s.1 a j) = (if a = b then f j else if a = 147 ∧ j = e then Z else s.1 a j)
  by_cases q : a = b
  · rw [if_pos q, if_pos q]
  · rw [if_neg q, if_neg q, if_neg q]
theorem pS_id (hb : b ≠ 147) : pS s b e (s.1 b) (s.1 147 e) = s := by
  refine Prod.ext (funext fun a => funext fun j => ?_) rfl
  show (if a = b then s.1 b j else if a = 147 ∧ j = e then s.1 147 e else s.1 a j) = s.1 a j
  by_cases q : a = b
  · rw [if_pos q, q]
  rw [if_neg q]
  by_cases w : a = 147 ∧ j = e
  · rw [if_pos w, w.1, w.2]
  · rw [if_neg w]
theorem ln134 : ∀ e, e < 13 → ln (134 + e) = 13 ∧ lc (134 + e) = 20 := by decide
theorem c0 : (0 : Int32).toNatClampNeg = 0 := by decide
theorem cpy13 {k : Nat} (hk : k < 13) : va_cpy H T (0 : Int32).toNatClampNeg (0 : Int32).toNatClampNeg (13 : Int32).toNatClampNeg k = H k := by
  show (if _ then _ else _) = _
  rw [if_pos (by constructor <;> first | exact Nat.zero_le _ | exact hk), c0, Nat.zero_add, Nat.sub_zero]
theorem l_133 (he : e < 13) : L_X1_perform_133 en d (134 + e) s = some (some (.int (s.1 (134 + e) 0)), s) := by
  refine le_X1_perform_133 en d _ _ _ ?_
  rw [gd_true (ln134 e he).2, (ln134 e he).1, gd_true (by decide)]
theorem l_117 (he : e < 13) (hs : s.1 125 10 = nI st) (hst : st ≤ 1) {c : Bool} : L_X1_perform_117 en d (134 + e) (bt c) s = some (some (.int (if c = true ∧ st = 0 then 0 else s.1 (134 + e) 0)), s) := by
  refine le_X1_perform_117 en d _ _ _ _ ?_
  rw [gd_true (ln134 e he).2, l_133 he, hs]
  cases c
  · rw [if_pos (show bt false = 0 from rfl), if_neg (fun w => absurd w.1 (by decide))]
  · rw [if_neg (show ¬ bt true = 0 by decide)]
    by_cases h0 : st = 0
    · subst h0
      rw [if_neg (by decide), if_pos ⟨rfl, rfl⟩]
    · rw [if_pos (show ¬ nI st = (0 : Int32) from fun w => h0 ((nI_eq (b := 0) (by omega) (by decide)).mp w)), if_neg (fun w => h0 w.2)]
theorem l_59 (he : e < 12) (hs : s.1 125 10 = nI st) (hst : st ≤ 3) (hH : s.1 (134 + e) = H) (hz : z ≤ 12) {c : Bool} : ∃ T', L_X1_perform_59 en d (nI e) (134 + e) (134 + (e + 1)) (nI z) v (bt c) s = some (some (.int (pfm st c H z v).2.2), pS s (134 + (e + 1)) (e + 1) T' (nI (pfm st c H z v).2.1)) ∧ ∀ k, k < 13 → T' k = (pfm st c H z v).1 k := by
  obtain ⟨n3, c3⟩ := ln134 e (by omega)
  obtain ⟨n4, c4⟩ := ln134 (e + 1) (by omega)
  have hb : 134 + (e + 1) ≠ 147 := by omega
  have e2 : uIr s (134 + (e + 1)) (va_cpy H (s.1 (134 + (e + 1))) (0 : Int32).toNatClampNeg (0 : Int32).toNatClampNeg (13 : Int32).toNatClampNeg) = pS s (134 + (e + 1)) (e + 1) (va_cpy H (s.1 (134 + (e + 1))) (0 : Int32).toNatClampNeg (0 : Int32).toNatClampNeg (13 : Int32).toNatClampNeg) (s.1 147 (e + 1)) := by
    rw [← pS_wR (T := s.1 (134 + (e + 1))), pS_id hb]
  have hT : ∀ k, k < 13 → va_cpy H (s.1 (134 + (e + 1))) (0 : Int32).toNatClampNeg (0 : Int32).toNatClampNeg (13 : Int32).toNatClampNeg k = H k := fun k hk => cpy13 hk
  generalize hT1 : va_cpy H (s.1 (134 + (e + 1))) (0 : Int32).toNatClampNeg (0 : Int32).toNatClampNeg (13 : Int32).toNatClampNeg = T1 at e2 hT
  have h10 : ∀ (T : fI) (Z : Int32), (pS s (134 + (e + 1)) (e + 1) T Z).1 125 10 = nI st := fun T Z => by rw [pS_o (by omega) (by decide)]; exact hs
  have hr3 : ∀ (T : fI) (Z : Int32), (pS s (134 + (e + 1)) (e + 1) T Z).1 (134 + e) = H := fun T Z => by rw [pS_o (by omega) (by omega)]; exact hH
  have one : (1 : Int32).toNatClampNeg = 1 := by decide
  have h1s : ((1 : Int32) < nI st) = (1 < st) := by rw [n_lt (by decide) (by omega)]
  by_cases hst1 : st ≤ 1
  · have n1 : ¬ (1 : Int32) < nI st := by rw [h1s]; omega
    cases c
    · refine ⟨T1, le_X1_perform_59 en d _ _ _ _ _ _ _ _ ?_, ?_⟩
      · rw [gd_true c3, gd_true c4, hH, n3, n4, gd_true (by decide), nm_eq, hT1, e2, n_ar, gd_true (n_in (by show e + 1 < 13; omega) (by decide)), nm_eq, n_cl (by show e + 1 < _; omega), pS_wZ hb, h10, if_neg n1, if_pos (show bt false = 0 from rfl), l_117 (by omega) (h10 _ _) hst1, hr3]
        unfold pfm
        rw [if_pos hst1]
        rfl
      · unfold pfm
        rw [if_pos hst1]
        exact hT
    · have fin : ∀ x : Int32, L_X1_perform_116 en d (134 + e) (bt true) (134 + (e + 1)) 0 x (pS s (134 + (e + 1)) (e + 1) T1 (nI z)) = some (some (.int (if st = 0 then 0 else H 0)), pS s (134 + (e + 1)) (e + 1) (upd T1 0 x) (nI z)) := by
        intro x
        refine le_X1_perform_116 en d _ _ _ _ _ _ _ ?_
        rw [gd_true c3, gd_true c4, n4, gd_true (by decide), nm_eq, c0, pS_wT, l_117 (by omega) (h10 _ _) hst1, hr3]
        by_cases z0 : st = 0
        · rw [if_pos ⟨rfl, z0⟩, if_pos z0]
        · rw [if_neg (fun w => z0 w.2), if_neg z0]
      have h11 : ((nI st) = (1 : Int32)) = (st = 1) := propext ⟨fun w => (nI_eq (b := 1) (by omega) (by decide)).mp w, fun w => by rw [w]; rfl⟩
      refine ⟨upd T1 0 (if st = 1 then H 0 + v else v), le_X1_perform_59 en d _ _ _ _ _ _ _ _ ?_, ?_⟩
      · rw [gd_true c3, gd_true c4, hH, n3, n4, gd_true (by decide), nm_eq, hT1, e2, n_ar, gd_true (n_in (by show e + 1 < 13; omega) (by decide)), nm_eq, n_cl (by show e + 1 < _; omega), pS_wZ hb, h10, if_neg n1, if_neg (show ¬ bt true = 0 by decide), hr3]
        unfold pfm
        rw [if_pos hst1, if_pos rfl]
        by_cases z1 : st = 1
        · rw [if_neg (show ¬ ¬ nI st = (1 : Int32) by rw [h11]; exact fun w => w z1), gd_true (by decide), fin, if_pos z1]
        · rw [if_pos (show ¬ nI st = (1 : Int32) by rw [h11]; exact z1), fin, if_neg z1]
      · intro k hk
        unfold pfm
        rw [if_pos hst1, if_pos rfl]
        by_cases q : k = 0
        · subst q
          show _ = upd H 0 (if st = 1 then H 0 + v else v) 0
          rw [pk_us, pk_us]
        · rw [pk_un q]
          exact (hT k hk).trans (pk_un q).symm
  · have n1 : (1 : Int32) < nI st := by rw [h1s]; omega
    have h12 : ((nI st) = (2 : Int32)) = (st = 2) := propext ⟨fun w => (nI_eq (b := 2) (by omega) (by decide)).mp w, fun w => by rw [w]; rfl⟩
    cases c
    · by_cases z0 : z = 0
      · subst z0
        refine ⟨T1, le_X1_perform_59 en d _ _ _ _ _ _ _ _ ?_, ?_⟩
        · rw [gd_true c3, gd_true c4, hH, n3, n4, gd_true (by decide), nm_eq, hT1, e2, n_ar, gd_true (n_in (by show e + 1 < 13; omega) (by decide)), nm_eq, n_cl (by show e + 1 < _; omega), pS_wZ hb, h10, if_pos n1, if_pos (show bt false = 0 from rfl), if_neg (show ¬ ¬ nI 0 = (0 : Int32) by decide)]
          unfold pfm
          rw [if_neg hst1, if_neg (by decide), if_pos rfl]
        · unfold pfm
          rw [if_neg hst1, if_neg (by decide), if_pos rfl]
          exact hT
      · have nz : ¬ nI z = (0 : Int32) := fun w => z0 ((nI_eq (b := 0) (by omega) (by decide)).mp w)
        have ez : nI z - (1 : Int32) = nI (z - 1) := n_sr (by show 1 ≤ z; omega)
        by_cases s2 : st = 2
        · refine ⟨T1, le_X1_perform_59 en d _ _ _ _ _ _ _ _ ?_, ?_⟩
          · rw [gd_true c3, gd_true c4, hH, n3, n4, gd_true (by decide), nm_eq, hT1, e2, n_ar, gd_true (n_in (by show e + 1 < 13; omega) (by decide)), nm_eq, n_cl (by show e + 1 < _; omega), pS_wZ hb, h10, if_pos n1, if_pos (show bt false = 0 from rfl), if_pos nz, nm_eq, ez, pS_wZ hb, h10, if_neg (show ¬ ¬ nI st = (2 : Int32) by rw [h12]; exact fun w => w s2), gd_true (n_in (by omega) (by decide)), hr3, n_cl (by omega)]
            unfold pfm
            rw [if_neg hst1, if_neg (by decide), if_neg z0, if_pos s2]
          · unfold pfm
            rw [if_neg hst1, if_neg (by decide), if_neg z0, if_pos s2]
            exact hT
        · refine ⟨va_cpy H T1 1 0 (z - 1), le_X1_perform_59 en d _ _ _ _ _ _ _ _ ?_, ?_⟩
          · rw [gd_true c3, gd_true c4, hH, n3, n4, gd_true (by decide), nm_eq, hT1, e2, n_ar, gd_true (n_in (by show e + 1 < 13; omega) (by decide)), nm_eq, n_cl (by show e + 1 < _; omega), pS_wZ hb, h10, if_pos n1, if_pos (show bt false = 0 from rfl), if_pos nz, nm_eq, ez, pS_wZ hb, h10, if_pos (show ¬ nI st = (2 : Int32) by rw [h12]; exact s2), gd_true ⟨⟨by decide, by decide, nI_pos (by omega)⟩, by rw [one, n_cl (by omega)]; omega, by rw [c0, n_cl (by omega)]; omega⟩, nm_eq, hr3, pS_T, pS_wR, one, c0, n_cl (by omega), gd_true (by decide), hr3]
            unfold pfm
            rw [if_neg hst1, if_neg (by decide), if_neg z0, if_neg s2]
          · intro k hk
            unfold pfm
            rw [if_neg hst1, if_neg (by decide), if_neg z0, if_neg s2]
            show (if 0 ≤ k ∧ k < 0 + (z - 1) then H (1 + (k - 0)) else T1 k) = (if k < z - 1 then H (k + 1) else H k)
            by_cases q : k < z - 1
            · rw [if_pos ⟨Nat.zero_le _, by omega⟩, if_pos q, show 1 + (k - 0) = k + 1 by omega]
            · rw [if_neg (by omega), if_neg q]; exact hT k hk
    · refine ⟨upd T1 z v, le_X1_perform_59 en d _ _ _ _ _ _ _ _ ?_, ?_⟩
      · rw [gd_true c3, gd_true c4, hH, n3, n4, gd_true (by decide), nm_eq, hT1, e2, n_ar, gd_true (n_in (by show e + 1 < 13; omega) (by decide)), nm_eq, n_cl (by show e + 1 < _; omega), pS_wZ hb, h10, if_pos n1, if_neg (show ¬ bt true = 0 by decide), gd_true (n_in (by omega) (by decide)), nm_eq, n_cl (by omega), pS_wT, nm_eq, n_ar, pS_wZ hb]
        unfold pfm
        rw [if_neg hst1, if_pos rfl]
      · intro k hk
        unfold pfm
        rw [if_neg hst1, if_pos rfl]
        show upd T1 z v k = upd H z v k
        by_cases q : k = z
        · subst q
          rw [pk_us, pk_us]
        · rw [pk_un q, pk_un q]
          exact hT k hk
end PF
