/-! THE READER: declarations added, on both sides. -/
/-- the class's new cell, the model's -/
def ncX (s : qS) (c v : Nat) : qS := uI (uI (uJ s 12 c (Int64.ofNat v)) 15 c 0) 11 9 (nI (c + 1))
def ncM (t : qS) (c v : Nat) : qS := uI (uI (uI (uJ t 153 c (Int64.ofNat (w8 8 v))) 154 c 0) 155 c 0) 151 12 (nI (c + 1))
def nlX (s : qS) (l v : Nat) : qS := uI (uJ s 12 (8 + l) (Int64.ofNat v)) 11 10 (nI (l + 1))
def nlM (t : qS) (l v : Nat) : qS := uI (uJ t 156 l (Int64.ofNat (w8 8 v))) 151 16 (nI (l + 1))
def ntX (s : qS) (u v : Nat) : qS := uI (uI (uI (uJ s 12 (12 + u) (Int64.ofNat v)) 16 u (-1)) 11 11 (nI (u + 1))) 65 14 (nI u)
def ntM (t : qS) (u v : Nat) : qS := uI (uI (uI (uI (uJ t 157 u (Int64.ofNat (w8 8 v))) 158 u 0) 159 u 0) 181 u (-2)) 151 18 (nI (u + 1))
section TPA
variable {en : pN} {d d' k i i' n N j x y c u v q nc nc' nl nl' nt nt' m : Nat} {V V' cl cl' th K : Nat → Nat} {U : Nat → Nat → Nat} {bl : Nat → List Nat} {s s' s'' t t' t'' : qS} {B : Nat → Nat} {w z : Int32} {W : Int64}
theorem tpS_of (h : tpS s t V U cl nc nl nt m N th K bl) (hn : nmR s' t' V' U cl nc' nl' nt') (hx : ∀ a, a = 7 ∨ a = 8 ∨ a = 9 ∨ 18 ≤ a ∧ a ≤ 35 ∨ a = 68 → s'.1 a = s.1 a) (h65 : ∀ j, j = 8 ∨ j = 13 → s'.1 65 j = s.1 65 j) (h11 : s'.1 11 12 = s.1 11 12) (hR : s'.2.2 = s.2.2) (hJ : ∀ a, a = 66 ∨ a = 67 → s'.2.1 a = s.2.1 a) (hm : ∀ a, 161 ≤ a → a ≤ 183 → a ≠ 181 → t'.1 a = t.1 a) (h151 : ∀ j, j = 25 ∨ j = 28 ∨ j = 29 ∨ j = 32 → t'.1 151 j = t.1 151 j) (hm2 : ∀ a, a = 180 ∨ a = 182 → t'.2.1 a = t.2.1 a) (hc : clR s' t' nc') (hl : laR s' t' nt') (hG : lnG s' t' nt' N K th bl) (h1 : nc ≤ nc') (h2 : nl ≤ nl') (h3 : nt ≤ nt') : tpS s' t' V' U cl nc' nl' nt' m N th K bl := by
  obtain ⟨-, ⟨⟨a1, a2⟩, a3, ⟨a4, a5, a6⟩, a7, a8⟩, ⟨b1, b2, b3, b4⟩, hln, -, hW, -, -⟩ := h
  exact ⟨hn, ⟨⟨(h65 8 (Or.inl rfl)).trans a1, (h151 29 (by omega)).trans a2⟩, by rw [hR]; exact a3, ⟨(h65 13 (Or.inr rfl)).trans a4, (h151 28 (by omega)).trans a5, a6⟩, by rw [hx 7 (by omega)]; exact a7, (h151 25 (by omega)).trans a8⟩, ⟨h11.trans b1, (h151 32 (by omega)).trans b2, b3, fun p p1 p2 p3 => by rw [hm 164 (by decide) (by decide) (by decide)]; exact b4 p p1 p2 p3⟩, fun i hi => lnB_eq (hln i hi) (fun a ha => hx a (by omega)) (hJ 67 (Or.inr rfl)) (fun a a1 a2 a3 _ => hm a a1 a2 a3) hm2 h1 h2 h3, hG, fun j hj => by rw [hJ 66 (Or.inl rfl)]; exact hW j hj, hc, hl⟩
theorem clR_eq (h : clR s t nc) (h1 : s'.1 15 = s.1 15) (h2 : s'.1 11 7 = s.1 11 7) (h3 : t'.1 154 = t.1 154) (h4 : t'.1 155 = t.1 155) : clR s' t' nc := by
  intro c hc
  rw [h1, h2, h3, h4]
  exact h c hc
theorem laR_eq (h : laR s t nt) (h1 : s'.1 11 8 = s.1 11 8) (h3 : t'.1 158 = t.1 158) : laR s' t' nt := by
  intro c hc
  rw [h1, h3]
  exact h c hc
/-- tokens move on -/
theorem tpS_tk (h : tpS s t V U cl nc nl nt m N th K bl) (f : tnF s s') (g : mvF t t') : tpS s' t' V U cl nc nl nt m N th K bl := by
  have g151 : ∀ j, 9 ≤ j → t'.1 151 j = t.1 151 j := fun j hj => g.2.1 j (by omega) (by omega) (by omega) (by omega) (by omega) (by omega)
  obtain ⟨hn, -, -, -, hG, -, hc, hl⟩ := id h
  refine tpS_of h (nmR_fr hn (Or.inl rfl) (rxF.tk (m := 0) f (Or.inl rfl)) (rmF.mv (c := 0) g)) (fun a ha => f.1 a (by omega) (by omega)) (fun j hj => f.2.2.1 j (by omega) (by omega)) (by rw [f.1 11 (by decide) (by decide)]) f.2.2.2.2 (fun a ha => f.2.2.2.1 a (by omega)) (fun a a1 a2 a3 => g.1 a (by omega)) (fun j hj => g151 j (by omega)) (fun a ha => g.2.2.1 a (by omega)) ?_ ?_ ?_ (Nat.le_refl _) (Nat.le_refl _) (Nat.le_refl _)
  · exact clR_eq hc (f.1 15 (by decide) (by decide)) (by rw [f.1 11 (by decide) (by decide)]) (g.1 154 (by decide)) (g.1 155 (by decide))
  · exact laR_eq hl (by rw [f.1 11 (by decide) (by decide)]) (g.1 158 (by decide))
  · exact lnG_eq hG (fun a ha => f.1 a (by omega) (by omega)) (fun a ha => g.1 a (by omega))
/-- a cell more -/
theorem tpS_cell (h : tpS s t V U cl nc nl nt m N th K bl) (hc8 : nc < 8) (hv : v < 128 ^ 8) (hv0 : v ≠ 0) (hnew : ∀ j, j < 16 → V j ≠ v) : tpS (ncX s nc v) (ncM t nc v) (at1 V nc v) U cl (nc + 1) nl nt m N th K bl := by
  have sX : ∀ a, a ≠ 11 → a ≠ 15 → (ncX s nc v).1 a = s.1 a := fun a h1 h2 => by unfold ncX; rw [uI_ne h1, uI_ne h2]; rfl
  have s11 : ∀ j, (ncX s nc v).1 11 j = if j = 9 then nI (nc + 1) else s.1 11 j := fun j => by
    unfold ncX
    rw [rdU, uI_ne (show 11 ≠ 15 by decide)]
    by_cases z : j = 9
    · rw [if_pos ⟨rfl, z⟩, if_pos z]
    · rw [if_neg (fun y => z y.2), if_neg z]; rfl
  have s15 : ∀ j, (ncX s nc v).1 15 j = if j = nc then 0 else s.1 15 j := fun j => by
    unfold ncX
    rw [uI_ne (show 15 ≠ 11 by decide), rdU]
    by_cases z : j = nc
    · rw [if_pos ⟨rfl, z⟩, if_pos z]
    · rw [if_neg (fun y => z y.2), if_neg z]; rfl
  have s12 : ∀ j, (ncX s nc v).2.1 12 j = if j = nc then Int64.ofNat v else s.2.1 12 j := fun j => by
    show (uJ s 12 nc (Int64.ofNat v)).2.1 12 j = _
    rw [rdJ]
    by_cases z : j = nc
    · rw [if_pos ⟨rfl, z⟩, if_pos z]
    · rw [if_neg (fun y => z y.2), if_neg z]
  have sJ : ∀ a, a ≠ 12 → (ncX s nc v).2.1 a = s.2.1 a := fun a ha => uJ_ne ha
  have tX : ∀ a, a ≠ 151 → a ≠ 154 → a ≠ 155 → (ncM t nc v).1 a = t.1 a := fun a h1 h2 h3 => by unfold ncM; rw [uI_ne h1, uI_ne h3, uI_ne h2]; rfl
  have t151 : ∀ j, (ncM t nc v).1 151 j = if j = 12 then nI (nc + 1) else t.1 151 j := fun j => by
    unfold ncM
    rw [rdU, uI_ne (show 151 ≠ 155 by decide), uI_ne (show 151 ≠ 154 by decide)]
    by_cases z : j = 12
    · rw [if_pos ⟨rfl, z⟩, if_pos z]
    · rw [if_neg (fun y => z y.2), if_neg z]; rfl
  have t154 : ∀ j, (ncM t nc v).1 154 j = if j = nc then 0 else t.1 154 j := fun j => by
    unfold ncM
    rw [uI_ne (show 154 ≠ 151 by decide), uI_ne (show 154 ≠ 155 by decide), rdU]
    by_cases z : j = nc
    · rw [if_pos ⟨rfl, z⟩, if_pos z]
    · rw [if_neg (fun y => z y.2), if_neg z]; rfl
  have t155 : ∀ j, (ncM t nc v).1 155 j = if j = nc then 0 else t.1 155 j := fun j => by
    unfold ncM
    rw [uI_ne (show 155 ≠ 151 by decide), rdU, uI_ne (show 155 ≠ 154 by decide)]
    by_cases z : j = nc
    · rw [if_pos ⟨rfl, z⟩, if_pos z]
    · rw [if_neg (fun y => z y.2), if_neg z]; rfl
  have t153 : ∀ j, (ncM t nc v).2.1 153 j = if j = nc then Int64.ofNat (w8 8 v) else t.2.1 153 j := fun j => by
    show (uJ t 153 nc (Int64.ofNat (w8 8 v))).2.1 153 j = _
    rw [rdJ]
    by_cases z : j = nc
    · rw [if_pos ⟨rfl, z⟩, if_pos z]
    · rw [if_neg (fun y => z y.2), if_neg z]
  have tJ : ∀ a, a ≠ 153 → (ncM t nc v).2.1 a = t.2.1 a := fun a ha => uJ_ne ha
  obtain ⟨⟨⟨hnc, hnl, hnt4⟩, ⟨s9, s10, s11'⟩, ⟨t12, t16, t18⟩, hV, ⟨w1, w2, w3⟩, hL⟩, -, -, -, hG, -, hc, hl⟩ := id h
  refine tpS_of h ⟨⟨by omega, hnl, hnt4⟩, ⟨by rw [s11, if_pos rfl], by rw [s11, if_neg (by decide)]; exact s10, by rw [s11, if_neg (by decide)]; exact s11'⟩, ⟨by rw [t151, if_pos rfl], by rw [t151, if_neg (by decide)]; exact t16, by rw [t151, if_neg (by decide)]; exact t18⟩, nmV_add hV hv hnew s12 (Or.inl (Nat.lt_succ_self nc)) (Nat.le_succ nc) (Nat.le_refl nl) (Nat.le_refl nt), ⟨fun c hc => ?_, fun l hl => ?_, fun u hu => ?_⟩, fun u hu => ?_⟩ (fun a ha => sX a (by omega) (by omega)) (fun j _ => by rw [sX 65 (by decide) (by decide)]) (by rw [s11, if_neg (by decide)]) rfl (fun a ha => sJ a (by omega)) (fun a a1 a2 a3 => tX a (by omega) (by omega) (by omega)) (fun j hj => by rw [t151, if_neg (by omega)]) (fun a ha => tJ a (by omega)) ?_ (laR_eq hl (by rw [s11, if_neg (by decide)]) (tX 158 (by decide) (by decide) (by decide))) (lnG_eq hG (fun a ha => sX a (by omega) (by omega)) (fun a ha => tX a (by omega) (by omega) (by omega))) (Nat.le_succ nc) (Nat.le_refl nl) (Nat.le_refl nt)
  · rw [t153]
    by_cases z : c = nc
    · rw [if_pos z, z, at1_s]; exact ⟨rfl, hv0⟩
    · rw [if_neg z, at1_n z]; exact w1 c (by omega)
  · rw [tJ 156 (by decide), at1_n (by omega)]; exact w2 l hl
  · rw [tJ 157 (by decide), at1_n (by omega)]; exact w3 u hu
  · rw [sX 14 (by decide) (by decide), tX 159 (by decide) (by decide) (by decide), sJ 13 (by decide), tJ 160 (by decide)]
    exact hL u hu
  · intro c hc8'
    rw [s15, t154, t155, s11, if_neg (show ¬ 7 = 9 by decide)]
    by_cases z : c = nc
    · rw [if_pos z, if_pos z, if_pos z]
      left
      refine ⟨by omega, rfl, ⟨by decide, by decide⟩, ?_⟩
      rcases hc c hc8' with ⟨y, _⟩ | ⟨_, y⟩
      · exact absurd y (by omega)
      · rw [y]; rfl
    · rw [if_neg z, if_neg z, if_neg z]
      rcases hc c hc8' with ⟨y1, y2⟩ | ⟨y1, y2⟩
      · exact Or.inl ⟨by omega, y2⟩
      · exact Or.inr ⟨by omega, y2⟩
/-- a lock more -/
theorem tpS_lock (h : tpS s t V U cl nc nl nt m N th K bl) (hl4 : nl < 4) (hv : v < 128 ^ 8) (hv0 : v ≠ 0) (hnew : ∀ j, j < 16 → V j ≠ v) : tpS (nlX s nl v) (nlM t nl v) (at1 V (8 + nl) v) U cl nc (nl + 1) nt m N th K bl := by
  have sX : ∀ a, a ≠ 11 → (nlX s nl v).1 a = s.1 a := fun a h1 => by unfold nlX; rw [uI_ne h1]; rfl
  have s11 : ∀ j, (nlX s nl v).1 11 j = if j = 10 then nI (nl + 1) else s.1 11 j := fun j => by
    unfold nlX
    rw [rdU]
    by_cases z : j = 10
    · rw [if_pos ⟨rfl, z⟩, if_pos z]
    · rw [if_neg (fun y => z y.2), if_neg z]; rfl
  have s12 : ∀ j, (nlX s nl v).2.1 12 j = if j = 8 + nl then Int64.ofNat v else s.2.1 12 j := fun j => by
    show (uJ s 12 (8 + nl) (Int64.ofNat v)).2.1 12 j = _
    rw [rdJ]
    by_cases z : j = 8 + nl
    · rw [if_pos ⟨rfl, z⟩, if_pos z]
    · rw [if_neg (fun y => z y.2), if_neg z]
  have sJ : ∀ a, a ≠ 12 → (nlX s nl v).2.1 a = s.2.1 a := fun a ha => uJ_ne ha
  have tX : ∀ a, a ≠ 151 → (nlM t nl v).1 a = t.1 a := fun a h1 => by unfold nlM; rw [uI_ne h1]; rfl
  have t151 : ∀ j, (nlM t nl v).1 151 j = if j = 16 then nI (nl + 1) else t.1 151 j := fun j => by
    unfold nlM
    rw [rdU]
    by_cases z : j = 16
    · rw [if_pos ⟨rfl, z⟩, if_pos z]
    · rw [if_neg (fun y => z y.2), if_neg z]; rfl
  have t156 : ∀ j, (nlM t nl v).2.1 156 j = if j = nl then Int64.ofNat (w8 8 v) else t.2.1 156 j := fun j => by
    show (uJ t 156 nl (Int64.ofNat (w8 8 v))).2.1 156 j = _
    rw [rdJ]
    by_cases z : j = nl
    · rw [if_pos ⟨rfl, z⟩, if_pos z]
    · rw [if_neg (fun y => z y.2), if_neg z]
  have tJ : ∀ a, a ≠ 156 → (nlM t nl v).2.1 a = t.2.1 a := fun a ha => uJ_ne ha
  obtain ⟨⟨⟨hnc, hnl, hnt4⟩, ⟨s9, s10, s11'⟩, ⟨t12, t16, t18⟩, hV, ⟨w1, w2, w3⟩, hL⟩, -, -, -, hG, -, hc, hl⟩ := id h
  refine tpS_of h ⟨⟨hnc, by omega, hnt4⟩, ⟨by rw [s11, if_neg (by decide)]; exact s9, by rw [s11, if_pos rfl], by rw [s11, if_neg (by decide)]; exact s11'⟩, ⟨by rw [t151, if_neg (by decide)]; exact t12, by rw [t151, if_pos rfl], by rw [t151, if_neg (by decide)]; exact t18⟩, nmV_add hV hv hnew s12 (Or.inr (Or.inl ⟨Nat.le_add_right 8 nl, by omega⟩)) (Nat.le_refl nc) (Nat.le_succ nl) (Nat.le_refl nt), ⟨fun c hc => ?_, fun l hl => ?_, fun u hu => ?_⟩, fun u hu => ?_⟩ (fun a ha => sX a (by omega)) (fun j _ => by rw [sX 65 (by decide)]) (by rw [s11, if_neg (by decide)]) rfl (fun a ha => sJ a (by omega)) (fun a a1 a2 a3 => tX a (by omega)) (fun j hj => by rw [t151, if_neg (by omega)]) (fun a ha => tJ a (by omega)) (clR_eq hc (sX 15 (by decide)) (by rw [s11, if_neg (by decide)]) (tX 154 (by decide)) (tX 155 (by decide))) (laR_eq hl (by rw [s11, if_neg (by decide)]) (tX 158 (by decide))) (lnG_eq hG (fun a ha => sX a (by omega)) (fun a ha => tX a (by omega))) (Nat.le_refl nc) (Nat.le_succ nl) (Nat.le_refl nt)
  · rw [tJ 153 (by decide), at1_n (by omega)]; exact w1 c hc
  · rw [t156]
    by_cases z : l = nl
    · rw [if_pos z, z, at1_s]; exact ⟨rfl, hv0⟩
    · rw [if_neg z, at1_n (by omega)]; exact w2 l (by omega)
  · rw [tJ 157 (by decide), at1_n (by omega)]; exact w3 u hu
  · rw [sX 14 (by decide), tX 159 (by decide), sJ 13 (by decide), tJ 160 (by decide)]
    exact hL u hu
/-- a thread more -/
theorem tpS_thread (h : tpS s t V U cl nc nl nt m N th K bl) (hl4 : nt < 4) (hv : v < 128 ^ 8) (hv0 : v ≠ 0) (hnew : ∀ j, j < 16 → V j ≠ v) : tpS (ntX s nt v) (ntM t nt v) (at1 V (12 + nt) v) U cl nc nl (nt + 1) m N th K bl ∧ (ntX s nt v).1 65 14 = nI nt ∧ bl nt = [] := by
  have sX : ∀ a, a ≠ 11 → a ≠ 16 → a ≠ 65 → (ntX s nt v).1 a = s.1 a := fun a h1 h2 h3 => by unfold ntX; rw [uI_ne h3, uI_ne h1, uI_ne h2]; rfl
  have s11 : ∀ j, (ntX s nt v).1 11 j = if j = 11 then nI (nt + 1) else s.1 11 j := fun j => by
    unfold ntX
    rw [uI_ne (show 11 ≠ 65 by decide), rdU, uI_ne (show 11 ≠ 16 by decide)]
    by_cases z : j = 11
    · rw [if_pos ⟨rfl, z⟩, if_pos z]
    · rw [if_neg (fun y => z y.2), if_neg z]; rfl
  have s16 : ∀ j, (ntX s nt v).1 16 j = if j = nt then -1 else s.1 16 j := fun j => by
    unfold ntX
    rw [uI_ne (show 16 ≠ 65 by decide), uI_ne (show 16 ≠ 11 by decide), rdU]
    by_cases z : j = nt
    · rw [if_pos ⟨rfl, z⟩, if_pos z]
    · rw [if_neg (fun y => z y.2), if_neg z]; rfl
  have s65 : ∀ j, j ≠ 14 → (ntX s nt v).1 65 j = s.1 65 j := fun j hj => by
    unfold ntX
    rw [rdU, if_neg (fun y => hj y.2), uI_ne (show 65 ≠ 11 by decide), uI_ne (show 65 ≠ 16 by decide)]
    rfl
  have s12 : ∀ j, (ntX s nt v).2.1 12 j = if j = 12 + nt then Int64.ofNat v else s.2.1 12 j := fun j => by
    show (uJ s 12 (12 + nt) (Int64.ofNat v)).2.1 12 j = _
    rw [rdJ]
    by_cases z : j = 12 + nt
    · rw [if_pos ⟨rfl, z⟩, if_pos z]
    · rw [if_neg (fun y => z y.2), if_neg z]
  have sJ : ∀ a, a ≠ 12 → (ntX s nt v).2.1 a = s.2.1 a := fun a ha => uJ_ne ha
  have tX : ∀ a, a ≠ 151 → a ≠ 158 → a ≠ 159 → a ≠ 181 → (ntM t nt v).1 a = t.1 a := fun a h1 h2 h3 h4 => by unfold ntM; rw [uI_ne h1, uI_ne h4, uI_ne h3, uI_ne h2]; rfl
  have t151 : ∀ j, (ntM t nt v).1 151 j = if j = 18 then nI (nt + 1) else t.1 151 j := fun j => by
    unfold ntM
    rw [rdU, uI_ne (show 151 ≠ 181 by decide), uI_ne (show 151 ≠ 159 by decide), uI_ne (show 151 ≠ 158 by decide)]
    by_cases z : j = 18
    · rw [if_pos ⟨rfl, z⟩, if_pos z]
    · rw [if_neg (fun y => z y.2), if_neg z]; rfl
  have t158 : ∀ j, (ntM t nt v).1 158 j = if j = nt then 0 else t.1 158 j := fun j => by
    unfold ntM
    rw [uI_ne (show 158 ≠ 151 by decide), uI_ne (show 158 ≠ 181 by decide), uI_ne (show 158 ≠ 159 by decide), rdU]
    by_cases z : j = nt
    · rw [if_pos ⟨rfl, z⟩, if_pos z]
    · rw [if_neg (fun y => z y.2), if_neg z]; rfl
  have t159 : ∀ j, (ntM t nt v).1 159 j = if j = nt then 0 else t.1 159 j := fun j => by
    unfold ntM
    rw [uI_ne (show 159 ≠ 151 by decide), uI_ne (show 159 ≠ 181 by decide), rdU, uI_ne (show 159 ≠ 158 by decide)]
    by_cases z : j = nt
    · rw [if_pos ⟨rfl, z⟩, if_pos z]
    · rw [if_neg (fun y => z y.2), if_neg z]; rfl
  have t181 : ∀ j, (ntM t nt v).1 181 j = if j = nt then -2 else t.1 181 j := fun j => by
    unfold ntM
    rw [uI_ne (show 181 ≠ 151 by decide), rdU, uI_ne (show 181 ≠ 159 by decide), uI_ne (show 181 ≠ 158 by decide)]
    by_cases z : j = nt
    · rw [if_pos ⟨rfl, z⟩, if_pos z]
    · rw [if_neg (fun y => z y.2), if_neg z]; rfl
  have t157 : ∀ j, (ntM t nt v).2.1 157 j = if j = nt then Int64.ofNat (w8 8 v) else t.2.1 157 j := fun j => by
    show (uJ t 157 nt (Int64.ofNat (w8 8 v))).2.1 157 j = _
    rw [rdJ]
    by_cases z : j = nt
    · rw [if_pos ⟨rfl, z⟩, if_pos z]
    · rw [if_neg (fun y => z y.2), if_neg z]
  have tJ : ∀ a, a ≠ 157 → (ntM t nt v).2.1 a = t.2.1 a := fun a ha => uJ_ne ha
  obtain ⟨⟨⟨hnc, hnl, hnt4⟩, ⟨s9, s10, s11'⟩, ⟨t12, t16, t18⟩, hV, ⟨w1, w2, w3⟩, hL⟩, -, -, -, hG, -, hc, hl⟩ := id h
  obtain ⟨hG', hbl⟩ := lnG_thread (s' := ntX s nt v) (t' := ntM t nt v) hG hl4 (fun a ha => sX a (by omega) (by omega) (by omega)) (fun a ha => tX a (by omega) (by omega) (by omega) (by omega)) s16 t181
  refine ⟨tpS_of h ⟨⟨hnc, hnl, by omega⟩, ⟨by rw [s11, if_neg (by decide)]; exact s9, by rw [s11, if_neg (by decide)]; exact s10, by rw [s11, if_pos rfl]⟩, ⟨by rw [t151, if_neg (by decide)]; exact t12, by rw [t151, if_neg (by decide)]; exact t16, by rw [t151, if_pos rfl]⟩, nmV_add hV hv hnew s12 (Or.inr (Or.inr ⟨Nat.le_add_right 12 nt, by omega⟩)) (Nat.le_refl nc) (Nat.le_refl nl) (Nat.le_succ nt), ⟨fun c hc => ?_, fun l hl => ?_, fun u hu => ?_⟩, fun u hu => ?_⟩ (fun a ha => sX a (by omega) (by omega) (by omega)) (fun j hj => s65 j (by omega)) (by rw [s11, if_neg (by decide)]) rfl (fun a ha => sJ a (by omega)) (fun a a1 a2 a3 => tX a (by omega) (by omega) (by omega) a3) (fun j hj => by rw [t151, if_neg (by omega)]) (fun a ha => tJ a (by omega)) (clR_eq hc (sX 15 (by decide) (by decide) (by decide)) (by rw [s11, if_neg (by decide)]) (tX 154 (by decide) (by decide) (by decide) (by decide)) (tX 155 (by decide) (by decide) (by decide) (by decide))) ?_ hG' (Nat.le_refl nc) (Nat.le_refl nl) (Nat.le_succ nt), by unfold ntX; rw [rdU, if_pos ⟨rfl, rfl⟩], hbl⟩
  · rw [tJ 153 (by decide), at1_n (by omega)]; exact w1 c hc
  · rw [tJ 156 (by decide), at1_n (by omega)]; exact w2 l hl
  · rw [t157]
    by_cases z : u = nt
    · rw [if_pos z, z, at1_s]; exact ⟨rfl, hv0⟩
    · rw [if_neg z, at1_n (by omega)]; exact w3 u (by omega)
  · rw [sX 14 (by decide) (by decide) (by decide), t159, sJ 13 (by decide), tJ 160 (by decide)]
    obtain ⟨l1, ⟨l2, l2'⟩, l3⟩ := hL u hu
    refine ⟨l1, ⟨fun hu' => ?_, fun hu' => l2' (by omega)⟩, l3⟩
    by_cases z : u = nt
    · rw [if_pos z, l2' (by omega)]; rfl
    · rw [if_neg z]; exact l2 (by omega)
  · intro u hu
    rw [t158, s11, if_neg (show ¬ 8 = 11 by decide)]
    by_cases z : u = nt
    · rw [if_pos z]
      left
      refine ⟨by omega, ?_⟩
      rcases hl u hu with ⟨y, _⟩ | ⟨_, y⟩
      · exact absurd y (by omega)
      · rw [y]; rfl
    · rw [if_neg z]
      rcases hl u hu with ⟨y1, y2⟩ | ⟨y1, y2⟩
      · exact Or.inl ⟨by omega, y2⟩
      · exact Or.inr ⟨by omega, y2⟩
/-- the last cell is volatile -/
theorem tpS_vol (h : tpS s t V U cl nc nl nt m N th K bl) (hc : c < nc) : tpS (uI s 11 7 (s.1 11 7 ||| ((1 : Int32) <<< (nI c &&& 31)))) (uI t 155 c 1) V U cl nc nl nt m N th K bl := by
  obtain ⟨hn, -, -, -, hG, -, hcR, hl⟩ := id h
  have s11 : ∀ j, j ≠ 7 → (uI s 11 7 (s.1 11 7 ||| ((1 : Int32) <<< (nI c &&& 31)))).1 11 j = s.1 11 j := fun j hj => by rw [rdU, if_neg (fun y => hj y.2)]
  have hnc := hn.1.1
  obtain ⟨g1, ⟨g2, g3, g4⟩, g5, g6, g7, g8⟩ := hn
  refine tpS_of h ⟨g1, ⟨(s11 9 (by decide)).trans g2, (s11 10 (by decide)).trans g3, (s11 11 (by decide)).trans g4⟩, ⟨by rw [uI_ne (by decide)]; exact g5.1, by rw [uI_ne (by decide)]; exact g5.2.1, by rw [uI_ne (by decide)]; exact g5.2.2⟩, g6, g7, fun u hu => by rw [uI_ne (by decide), uI_ne (by decide)]; exact g8 u hu⟩ (fun a ha => uI_ne (by omega)) (fun j _ => by rw [uI_ne (by decide)]) (s11 12 (by decide)) rfl (fun _ _ => rfl) (fun a a1 a2 a3 => uI_ne (by omega)) (fun j _ => by rw [uI_ne (by decide)]) (fun _ _ => rfl) (fun e he => ?_) (laR_eq hl (s11 8 (by decide)) (uI_ne (by decide))) (lnG_eq hG (fun a ha => uI_ne (by omega)) (fun a ha => uI_ne (by omega))) (Nat.le_refl _) (Nat.le_refl _) (Nat.le_refl _)
  rw [uI_ne (show 154 ≠ 155 by decide), uI_ne (show 15 ≠ 11 by decide), rdW, orb (by omega) (by omega)]
  rcases hcR e he with ⟨y1, y2, y3, y4⟩ | ⟨y1, y2⟩
  · left
    refine ⟨y1, y2, y3, ?_⟩
    rw [rdU]
    by_cases z : e = c
    · rw [if_pos ⟨rfl, z⟩, decide_eq_true z, Bool.or_true]; rfl
    · rw [if_neg (fun y => z y.2), decide_eq_false z, Bool.or_false]; exact y4
  · right
    refine ⟨y1, ?_⟩
    rw [y2, decide_eq_false (by omega)]; rfl
/-- a cell's first value -/
theorem tpS_val (h : tpS s t V U cl nc nl nt m N th K bl) (hc : c < nc) (hw : inR w) : tpS (uI s 15 c w) (uI t 154 c w) V U cl nc nl nt m N th K bl := by
  obtain ⟨hn, -, -, -, hG, -, hcR, hl⟩ := id h
  obtain ⟨g1, ⟨g2, g3, g4⟩, g5, g6, g7, g8⟩ := hn
  refine tpS_of h ⟨g1, ⟨by rw [uI_ne (by decide)]; exact g2, by rw [uI_ne (by decide)]; exact g3, by rw [uI_ne (by decide)]; exact g4⟩, ⟨by rw [uI_ne (by decide)]; exact g5.1, by rw [uI_ne (by decide)]; exact g5.2.1, by rw [uI_ne (by decide)]; exact g5.2.2⟩, g6, g7, fun u hu => by rw [uI_ne (by decide), uI_ne (by decide)]; exact g8 u hu⟩ (fun a ha => uI_ne (by omega)) (fun j _ => by rw [uI_ne (by decide)]) (by rw [uI_ne (by decide)]) rfl (fun _ _ => rfl) (fun a a1 a2 a3 => uI_ne (by omega)) (fun j _ => by rw [uI_ne (by decide)]) (fun _ _ => rfl) (fun e he => ?_) (laR_eq hl (by rw [uI_ne (by decide)]) (uI_ne (by decide))) (lnG_eq hG (fun a ha => uI_ne (by omega)) (fun a ha => uI_ne (by omega))) (Nat.le_refl _) (Nat.le_refl _) (Nat.le_refl _)
  rw [uI_ne (show 155 ≠ 154 by decide), uI_ne (show 11 ≠ 15 by decide), rdU, rdU]
  rcases hcR e he with ⟨y1, y2, y3, y4⟩ | ⟨y1, y2⟩
  · left
    by_cases z : e = c
    · rw [if_pos ⟨rfl, z⟩, if_pos ⟨rfl, z⟩]; exact ⟨y1, rfl, hw, y4⟩
    · rw [if_neg (fun y => z y.2), if_neg (fun y => z y.2)]; exact ⟨y1, y2, y3, y4⟩
  · exact Or.inr ⟨y1, y2⟩
/-- a thread that starts later -/
theorem tpS_later (h : tpS s t V U cl nc nl nt m N th K bl) (hu : u < nt) : tpS (uI s 11 8 (s.1 11 8 ||| ((1 : Int32) <<< (nI u &&& 31)))) (uI t 158 u 1) V U cl nc nl nt m N th K bl := by
  obtain ⟨hn, -, -, -, hG, -, hcR, hl⟩ := id h
  have s11 : ∀ j, j ≠ 8 → (uI s 11 8 (s.1 11 8 ||| ((1 : Int32) <<< (nI u &&& 31)))).1 11 j = s.1 11 j := fun j hj => by rw [rdU, if_neg (fun y => hj y.2)]
  have hnt := hn.1.2.2
  obtain ⟨g1, ⟨g2, g3, g4⟩, g5, g6, g7, g8⟩ := hn
  refine tpS_of h ⟨g1, ⟨(s11 9 (by decide)).trans g2, (s11 10 (by decide)).trans g3, (s11 11 (by decide)).trans g4⟩, ⟨by rw [uI_ne (by decide)]; exact g5.1, by rw [uI_ne (by decide)]; exact g5.2.1, by rw [uI_ne (by decide)]; exact g5.2.2⟩, g6, g7, fun u hu => by rw [uI_ne (by decide), uI_ne (by decide)]; exact g8 u hu⟩ (fun a ha => uI_ne (by omega)) (fun j _ => by rw [uI_ne (by decide)]) (s11 12 (by decide)) rfl (fun _ _ => rfl) (fun a a1 a2 a3 => uI_ne (by omega)) (fun j _ => by rw [uI_ne (by decide)]) (fun _ _ => rfl) (clR_eq hcR (uI_ne (by decide)) (s11 7 (by decide)) (uI_ne (by decide)) (uI_ne (by decide))) (fun e he => ?_) (lnG_eq hG (fun a ha => uI_ne (by omega)) (fun a ha => uI_ne (by omega))) (Nat.le_refl _) (Nat.le_refl _) (Nat.le_refl _)
  rw [rdW, orb (by omega) (by omega), rdU]
  rcases hl e he with ⟨y1, y2⟩ | ⟨y1, y2⟩
  · left
    refine ⟨y1, ?_⟩
    by_cases z : e = u
    · rw [if_pos ⟨rfl, z⟩, decide_eq_true z, Bool.or_true]; rfl
    · rw [if_neg (fun y => z y.2), decide_eq_false z, Bool.or_false]; exact y2
  · right
    refine ⟨y1, ?_⟩
    rw [y2, decide_eq_false (by omega)]; rfl
end TPA
