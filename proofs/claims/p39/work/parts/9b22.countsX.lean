/-! CHANCES, the class's side: all drawn runs. -/
/-- the class's picture while runs are drawn; σ0, F0: as it was -/
abbrev drS (P : Nat → fI) (nc nl nt n p : Nat) (X : xT) (σ0 : qS) (F0 : fI) (s : qS) : Prop := ∃ (σ : qS) (F N : fI) (b : Int32) (G : fI), s = mS σ 71 F N b G ∧ drI P nc nl nt p X σ F ∧ drF σ0 σ ∧ (∀ j, j ≠ 9 → j ≠ 10 → j ≠ 11 → j ≠ 12 → F j = F0 j) ∧ SV P 0 nc nl nt n N ∧ N 235 = 0
/-- one count for all numbers drawn -/
def cntC (dd k : Nat) (h : Nat → Nat → Nat) : Nat := if dd = 1 then h 0 0 else if dd = 2 then smN (fun i => h (i + 1) 0) k else smN (fun i => smN (fun j => (if j = 0 then 1 else 2) * h (i + 1) (i + 1 + j)) (k - i)) k
section CHZ
variable {en : pN} {d p nc nl nt n t k r m o : Nat} {P : Nat → fI} {σ σ' σ0 s : qS} {F F' F0 N G : fI} {b : Int32} {L : Nat → Nat} {X : xT} {f : Nat → Nat}
theorem smN_hd : ∀ m, smN f (m + 1) = f 0 + smN (fun i => f (i + 1)) m := by
  intro m
  induction m with
  | zero => show 0 + f 0 = f 0 + 0; omega
  | succ m ih =>
    show smN f (m + 1) + f (m + 1) = f 0 + (smN (fun i => f (i + 1)) m + f (m + 1))
    rw [ih]; omega
theorem uR_id {q : Nat} (h : σ.2.2 71 7 = q) : uR σ 71 7 q = σ := by
  refine Prod.ext rfl (Prod.ext rfl (funext fun a => funext fun j => ?_))
  show (if a = 71 ∧ j = 7 then q else σ.2.2 a j) = σ.2.2 a j
  by_cases z : a = 71 ∧ j = 7
  · rw [if_pos z, z.1, z.2, h]
  · rw [if_neg z]
theorem f0_235 {M : fI} (hc8 : nc ≤ 8) : fst0 P 0 nc nt M 235 = 0 := f0_z hc8 235 (by decide) (by omega) (by omega) (by omega) (by omega) (by omega) (by omega)
theorem pkF_cg {c c' : Nat → Nat} {L : Nat → Nat} : ∀ m i, (∀ j, i ≤ j → j < i + m → c (L j) = c' (L j)) → pkF c L m i = pkF c' L m i := by
  intro m
  induction m with
  | zero => intro i _; rfl
  | succ m ih =>
    intro i h
    show (if 0 < c (L i) then some i else pkF c L m (i + 1)) = if 0 < c' (L i) then some i else pkF c' L m (i + 1)
    rw [h i (Nat.le_refl _) (by omega), ih (i + 1) (fun j a b => h j (by omega) (by omega))]
theorem eqO_S {K : fI} (hnt : nt ≤ 4) (h : eqS N F) : eqO nt K N ↔ eqO nt K F := by
  have e : eqO nt N F := ⟨cg_soS h hnt, fun j _ b => h j (by omega), fun j _ b => h j (by omega)⟩
  exact ⟨fun z => z.tr e, fun z => z.tr e.sy⟩
/-- runs from states that are one are one -/
theorem rnF_cg (en : pN) (hBx : MBx P nc nl nt n) (hP : PV P nc nl nt n) {K : fI} {one oth : Nat} : ∀ (u k : Nat) (L : Nat → Nat) (N M : fI), PL nt L → SV P 0 nc nl nt n N → SV P 0 nc nl nt n M → eqS N M → ((∃ N1, rnF P nt one oth u k L N = some N1 ∧ eqO nt K N1) ↔ ∃ N1, rnF P nt one oth u k L M = some N1 ∧ eqO nt K N1) := by
  have ht4 := hP.2.2.1.2
  intro u
  induction u with
  | zero =>
    intro k L N M _ _ _ _
    exact ⟨fun ⟨_, z, _⟩ => (by cases z), fun ⟨_, z, _⟩ => (by cases z)⟩
  | succ u ih =>
    intro k L N M hL hN hM he
    have ep : pkF (fun t => chs P 0 N t nt) L nt 0 = pkF (fun t => chs P 0 M t nt) L nt 0 := pkF_cg nt 0 (fun j _ b => cg_chs en hBx hP hN hM (by decide) he (hL.1 j (by omega)))
    have e1 : ∀ K : fI, rnF P nt one oth (u + 1) k L K = match pkF (fun t => chs P 0 K t nt) L nt 0 with
      | none => some K
      | some r => rnF P nt one oth u (k + 1) (if k + 1 = one ∨ k + 1 = oth then lowF nt r L else L) (stp P 0 K (L r) 0 nt) := fun _ => rfl
    rw [e1 N, e1 M, ep]
    cases hpk : pkF (fun t => chs P 0 M t nt) L nt 0 with
    | none =>
      constructor
      · rintro ⟨N1, z, h⟩
        have z : N = N1 := Option.some.inj z
        exact ⟨M, rfl, (eqO_S ht4 he).mp (by rw [z]; exact h)⟩
      · rintro ⟨N1, z, h⟩
        have z : M = N1 := Option.some.inj z
        exact ⟨N, rfl, (eqO_S ht4 he).mpr (by rw [z]; exact h)⟩
    | some r =>
      obtain ⟨-, hr, hc, -⟩ := pkF_some nt 0 hpk
      rw [Nat.zero_add] at hr
      have hrM : rdS P 0 M (L r) 0 nt := ⟨hL.1 r hr, Or.inl hc⟩
      have hrN := cg_rdS en hBx hP hM hN (by decide) he.sy hrM
      have hst := cg_stp en hBx hP hN hM (by decide) he hrN (by decide)
      have hL' : PL nt (if k + 1 = one ∨ k + 1 = oth then lowF nt r L else L) := by
        split
        · exact PL_low hL hr
        · exact hL
      exact ih (k + 1) _ _ _ hL' (SV_stp hP hN (by decide) hrN (by decide)) (SV_stp hP hM (by decide) hrM (by decide)) hst
theorem hit_iff {N0 K : fI} {l : List Nat} {one oth : Nat} : hitN P nt N0 K l one oth = 1 ↔ ∃ N', rnF P nt one oth 201 0 (gtL l) N0 = some N' ∧ eqO nt K N' := by
  unfold hitN
  by_cases q : ∃ N', rnF P nt one oth 201 0 (gtL l) N0 = some N' ∧ eqO nt K N'
  · rw [if_pos q]; exact ⟨fun _ => q, fun _ => rfl⟩
  · rw [if_neg q]; exact ⟨fun z => absurd z (by decide), fun z => absurd z q⟩
theorem hit_01 {N0 K : fI} {l : List Nat} {one oth : Nat} : hitN P nt N0 K l one oth = 0 ∨ hitN P nt N0 K l one oth = 1 := by
  unfold hitN
  by_cases q : ∃ N', rnF P nt one oth 201 0 (gtL l) N0 = some N' ∧ eqO nt K N'
  · rw [if_pos q]; exact Or.inr rfl
  · rw [if_neg q]; exact Or.inl rfl
theorem x_drawn (hBx : MBx P nc nl nt n) (hP : PV P nc nl nt n) (hX : XV P 0 nc nl nt n X) (hin : ∀ c, c < nc → inR (P 4 c)) (ho : o < (outL P 0 nt (xS X) (xN X)).length) {one oth code : Nat} (h1 : one < 2 ^ 30) (h2 : oth < 2 ^ 30) (hcd : code < facN nt) (h0 : drS P nc nl nt n p X σ0 F0 s) :
    ∃ (v : Int32) (s' : qS), qev en (d + 7) 197 [.ref 70, .int (nI code), .int (nI one), .int (nI oth)] s = some (some (.int v), s') ∧ drS P nc nl nt n p X σ0 F0 s' ∧ (v = nI o ↔ hitN P nt (fst0 P 0 nc nt (fun _ => 0)) (xS X (oK P 0 nt X o)) (arrL nt code) one oth = 1) := by
  obtain ⟨σ, F, N, b, G, rfl, hI, hF, hFF, hS, hN⟩ := h0
  have hI' := hI
  obtain ⟨hB, hsl, h8, hRW⟩ := hI'
  have hp := hB.2.1
  have ht4 := hP.2.2.1.2
  have hfac : code < 2 ^ 30 := by
    have : facN nt ≤ 24 := by
      have : nt = 0 ∨ nt = 1 ∨ nt = 2 ∨ nt = 3 ∨ nt = 4 := by omega
      rcases this with z | z | z | z | z <;> subst z <;> decide
    omega
  obtain ⟨-, hPL⟩ := okPL_PL (arr_ok nt (by omega) code hcd)
  obtain ⟨s1, e198, a95, ao, a2⟩ := x_arrange (en := en) (d := d + 5) (s := mS σ 71 F N b G) (p := p) ht4 hp hB.2.2.1 (xb_nt hB hP) (show code < 2 ^ 31 by omega)
  have pic : s1 = mS (uIr σ 95 (s1.1 95)) 71 F N b G := by
    refine Prod.ext (funext fun c => ?_) (by rw [a2]; rfl)
    by_cases q : c = 95
    · subst q
      rw [mS_o (by decide) (by decide) (by decide) (by decide), uIr_row]
    · rw [ao c q]
      have : mS (uIr σ 95 (s1.1 95)) 71 F N b G = uIr (mS σ 71 F N b G) 95 (s1.1 95) := (mS_Ir (by decide) (by decide) (by decide) (by decide)).symm
      rw [this, uIr_ne q]
  have hd1 : drF σ (uIr σ 95 (s1.1 95)) := ⟨fun c hc => uIr_ne hc, fun _ _ => rfl, rfl⟩
  have hI1 := hI.fr hd1 (fun _ _ _ _ _ => rfl)
  obtain ⟨hB1, hsl1, h81, hRW1⟩ := id hI1
  have e33 := x_first (en := en) (d := d + 4) (σ := uIr σ 95 (s1.1 95)) (m := 71) (p := p) (F := F) (N := N) (b := b) (G := G) (w := 0) (nt := nt) (Or.inl rfl) hp hB1.2.2.2.1 hB1.2.2.2.2.1 hB1.2.2.2.2.2 (by decide) hP.1.1 hP.1.2 hP.2.2.1.1 ht4
  rw [uR_id hB1.2.2.1] at e33
  have hF8 : ∀ j, upd F 8 (nI 0) j = F j := fun j => by
    by_cases z : j = 8
    · rw [z, pk_us, h8]
    · exact pk_un z
  have hS0 := f0_SV (M := N) (w := 0) hP (by decide) hin
  obtain ⟨v, σ', F', N', b', G', r1, r2, r3, r4, r5, r6⟩ := x_draw23 (en := en) (d := d) hP hX ho h1 h2 201 0 (gtL (arrL nt code)) (uIr σ 95 (s1.1 95)) (upd F 8 (nI 0)) (fst0 P 0 nc nt N) b G (by omega) (hI1.fr drF.rf (fun j _ _ _ _ => hF8 j)) hS0 (f0_235 hP.1.2) hPL (fun i hi => by rw [uIr_row]; exact a95 i hi)
  refine ⟨v, _, le_X10_drawnOutcome en _ _ _ _ _ _ ?_, ⟨σ', F', N', b', G', rfl, ?_, (hF.tr hd1).tr r2, fun j b1 b2 b3 b4 => (r3 j b1 b2 b3 b4).trans ((hF8 j).trans (hFF j b1 b2 b3 b4)), r4, r5⟩, ?_⟩
  · have e33' : qev en (d + 6) 33 [.ref 71, .ref p, .int (0 : Int32)] (mS (uIr σ 95 (s1.1 95)) 71 F N b G) = some (none, mS (uIr σ 95 (s1.1 95)) 71 (upd F 8 (nI 0)) (fst0 P 0 nc nt N) b G) := e33
    have e22 : s1.2.2 71 7 = p + 1 := by rw [a2]; exact hB.2.2.1
    rw [e198, bV_some, e22, gd_true ⟨by omega, by rcases hp with z | z <;> subst z <;> rfl⟩, nm_eq, Nat.add_sub_cancel]
    rw [pic, e33', bV_some]
    exact r1
  · exact (hI1.fr r2 (fun j b1 b2 b3 b4 => (r3 j b1 b2 b3 b4).trans (hF8 j)))
  · rw [r6]
    rw [hit_iff]
    exact rnF_cg en hBx hP 201 0 _ _ _ hPL hS0 (f0_SV hP (by decide) hin) (f0_eqS hP.1.2)
theorem x_c103 (hBx : MBx P nc nl nt n) (hP : PV P nc nl nt n) (hX : XV P 0 nc nl nt n X) (hin : ∀ c, c < nc → inR (P 4 c)) (ho : o < (outL P 0 nt (xS X) (xN X)).length) {dd lo one code : Nat} {q4 q5 : Int32} (h1 : one ≤ 12) (h2 : lo ≤ 12) (hd : dd ≤ 3) (hcd : code < facN nt) :
    ∀ (m j many : Nat) (s : qS), j + m = lo + 1 → drS P nc nl nt n p X σ0 F0 s → ∃ s', drS P nc nl nt n p X σ0 F0 s' ∧ ∀ r, L_X10_countChances_83 en (d + 7) (nI o) (nI dd) q4 q5 (nI lo) (nI (many + smN (fun i => (if dd ≤ 2 ∨ j + i = one then 1 else 2) * hitN P nt (fst0 P 0 nc nt (fun _ => 0)) (xS X (oK P 0 nt X o)) (arrL nt code) one (j + i)) m)) (nI code) (nI (one + 1)) s' = some r → L_X10_countChances_103 en (d + 7) (nI o) (nI dd) q4 q5 (nI lo) (nI many) (nI code) (nI one) (nI j) s = some r := by
  intro m
  induction m with
  | zero =>
    intro j many s hj hs
    refine ⟨s, hs, fun r hh => le_X10_countChances_103 en _ _ _ _ _ _ _ _ _ _ _ _ ?_⟩
    rw [if_pos (by rw [n_LT (by omega) (by omega)]; omega), show nI one + (1 : Int32) = nI (one + 1) from n_ar]
    exact hh
  | succ m ih =>
    intro j many s hj hs
    obtain ⟨v, s1, e1, hs1, hv⟩ := x_drawn (en := en) (d := d) hBx hP hX hin ho (one := one) (oth := j) (by omega) (by omega) hcd hs
    have hh01 := @hit_01 nt P (fst0 P 0 nc nt (fun _ => 0)) (xS X (oK P 0 nt X o)) (arrL nt code) one j
    generalize hh : hitN P nt (fst0 P 0 nc nt (fun _ => 0)) (xS X (oK P 0 nt X o)) (arrL nt code) one j = hv1 at hh01 hv
    obtain ⟨s2, hs2, h2'⟩ := ih (j + 1) (many + (if dd ≤ 2 ∨ j = one then 1 else 2) * hv1) s1 (by omega) hs1
    refine ⟨s2, hs2, fun r hr => le_X10_countChances_103 en _ _ _ _ _ _ _ _ _ _ _ _ ?_⟩
    rw [smN_hd] at hr
    have ej : nI j + (1 : Int32) = nI (j + 1) := n_ar
    have hr2 := h2' r (by
      have e : many + ((if dd ≤ 2 ∨ j + 0 = one then 1 else 2) * hitN P nt (fst0 P 0 nc nt (fun _ => 0)) (xS X (oK P 0 nt X o)) (arrL nt code) one (j + 0) + smN (fun i => (if dd ≤ 2 ∨ j + (i + 1) = one then 1 else 2) * hitN P nt (fst0 P 0 nc nt (fun _ => 0)) (xS X (oK P 0 nt X o)) (arrL nt code) one (j + (i + 1))) m) = many + (if dd ≤ 2 ∨ j = one then 1 else 2) * hv1 + smN (fun i => (if dd ≤ 2 ∨ j + 1 + i = one then 1 else 2) * hitN P nt (fst0 P 0 nc nt (fun _ => 0)) (xS X (oK P 0 nt X o)) (arrL nt code) one (j + 1 + i)) m := by
        rw [Nat.add_zero, hh, ← Nat.add_assoc]
        congr 1
        exact smN_cg fun i _ => by rw [show j + (i + 1) = j + 1 + i by omega]
      rw [← e]
      exact hr)
    rw [if_neg (by rw [n_LT (by omega) (by omega)]; omega), e1, bI_some, ej]
    rcases hh01 with z | z
    · rw [z, Nat.mul_zero, Nat.add_zero] at hr2
      rw [if_pos (fun y => by have := hv.mp y; omega)]
      exact hr2
    · rw [z, Nat.mul_one] at hr2
      rw [if_neg (not_not_intro (hv.mpr z))]
      by_cases d2 : dd ≤ 2
      · rw [if_pos (Or.inl d2)] at hr2
        rw [if_pos (by rw [show (2 : Int32) = nI 2 from rfl, n_LE (by omega) (by omega)]; exact d2), show nI many + (1 : Int32) = nI (many + 1) from n_ar]
        exact hr2
      · rw [if_neg (by rw [show (2 : Int32) = nI 2 from rfl, n_LE (by omega) (by omega)]; exact d2)]
        by_cases q : j = one
        · rw [if_pos (Or.inr q)] at hr2
          rw [if_pos (by rw [q]), show nI many + (1 : Int32) = nI (many + 1) from n_ar]
          exact hr2
        · rw [if_neg (fun y => y.elim d2 q)] at hr2
          rw [if_neg (by rw [n_EQ (by omega) (by omega)]; exact q), show nI many + (2 : Int32) = nI (many + 2) from n_ar]
          exact hr2
/-- what one number's row counts -/
def rowC (dd k one : Nat) (h : Nat → Nat → Nat) : Nat := if dd ≤ 2 then h one 0 else smN (fun j => (if j = 0 then 1 else 2) * h one (one + j)) (k + 1 - one)
theorem x_c83 (hBx : MBx P nc nl nt n) (hP : PV P nc nl nt n) (hX : XV P 0 nc nl nt n X) (hin : ∀ c, c < nc → inR (P 4 c)) (ho : o < (outL P 0 nt (xS X) (xN X)).length) {dd k lone lo code : Nat} {q4 : Int32} (hk : k ≤ 12) (h1 : lone ≤ k) (h2 : lo = if dd ≤ 2 then 0 else k) (hd : dd ≤ 3) (hcd : code < facN nt) (hz : dd ≤ 2 ∨ lone = k) :
    ∀ (m one many : Nat) (s : qS), one + m = lone + 1 → (dd ≤ 2 ∨ 1 ≤ one) → drS P nc nl nt n p X σ0 F0 s → ∃ s', drS P nc nl nt n p X σ0 F0 s' ∧ ∀ r, L_X10_countChances_64 en (d + 7) (nI o) (nI dd) q4 (nI lone) (nI lo) (nI (many + smN (fun i => rowC dd k (one + i) (hitN P nt (fst0 P 0 nc nt (fun _ => 0)) (xS X (oK P 0 nt X o)) (arrL nt code))) m)) (nI (code + 1)) s' = some r → L_X10_countChances_83 en (d + 7) (nI o) (nI dd) q4 (nI lone) (nI lo) (nI many) (nI code) (nI one) s = some r := by
  intro m
  induction m with
  | zero =>
    intro one many s hj _ hs
    refine ⟨s, hs, fun r hh => le_X10_countChances_83 en _ _ _ _ _ _ _ _ _ _ _ ?_⟩
    rw [if_pos (by rw [n_LT (by omega) (by omega)]; omega), show nI code + (1 : Int32) = nI (code + 1) from n_ar]
    exact hh
  | succ m ih =>
    intro one many s hj h1o hs
    have hlo : lo ≤ 12 := by rw [h2]; split <;> omega
    -- the inner row
    have inner : ∃ s1, drS P nc nl nt n p X σ0 F0 s1 ∧ ∀ r, L_X10_countChances_83 en (d + 7) (nI o) (nI dd) q4 (nI lone) (nI lo) (nI (many + rowC dd k one (hitN P nt (fst0 P 0 nc nt (fun _ => 0)) (xS X (oK P 0 nt X o)) (arrL nt code)))) (nI code) (nI (one + 1)) s1 = some r → L_X10_countChances_83 en (d + 7) (nI o) (nI dd) q4 (nI lone) (nI lo) (nI many) (nI code) (nI one) s = some r := by
      by_cases d2 : dd ≤ 2
      · have hl0 : lo = 0 := by rw [h2, if_pos d2]
        obtain ⟨s1, a1, a2⟩ := x_c103 (en := en) (d := d) (q4 := q4) (q5 := nI lone) hBx hP hX hin ho (dd := dd) (lo := lo) (one := one) (by omega) hlo hd hcd 1 0 many s (by omega) hs
        refine ⟨s1, a1, fun r hr => le_X10_countChances_83 en _ _ _ _ _ _ _ _ _ _ _ ?_⟩
        rw [if_neg (by rw [n_LT (by omega) (by omega)]; omega), if_pos (by rw [show (2 : Int32) = nI 2 from rfl, n_LE (by omega) (by omega)]; exact d2)]
        refine a2 r ?_
        have e : smN (fun i => (if dd ≤ 2 ∨ 0 + i = one then 1 else 2) * hitN P nt (fst0 P 0 nc nt (fun _ => 0)) (xS X (oK P 0 nt X o)) (arrL nt code) one (0 + i)) 1 = rowC dd k one (hitN P nt (fst0 P 0 nc nt (fun _ => 0)) (xS X (oK P 0 nt X o)) (arrL nt code)) := by
          unfold rowC
          rw [if_pos d2]
          show 0 + (if dd ≤ 2 ∨ 0 + 0 = one then 1 else 2) * _ = _
          rw [if_pos (Or.inl d2), Nat.zero_add, Nat.one_mul]
        rw [e]
        exact hr
      · have hlk : lo = k := by rw [h2, if_neg d2]
        have h1o' := h1o.resolve_left d2
        obtain ⟨s1, a1, a2⟩ := x_c103 (en := en) (d := d) (q4 := q4) (q5 := nI lone) hBx hP hX hin ho (dd := dd) (lo := lo) (one := one) (by omega) hlo hd hcd (k + 1 - one) one many s (by omega) hs
        refine ⟨s1, a1, fun r hr => le_X10_countChances_83 en _ _ _ _ _ _ _ _ _ _ _ ?_⟩
        rw [if_neg (by rw [n_LT (by omega) (by omega)]; omega), if_neg (by rw [show (2 : Int32) = nI 2 from rfl, n_LE (by omega) (by omega)]; exact d2)]
        refine a2 r ?_
        have e : smN (fun i => (if dd ≤ 2 ∨ one + i = one then 1 else 2) * hitN P nt (fst0 P 0 nc nt (fun _ => 0)) (xS X (oK P 0 nt X o)) (arrL nt code) one (one + i)) (k + 1 - one) = rowC dd k one (hitN P nt (fst0 P 0 nc nt (fun _ => 0)) (xS X (oK P 0 nt X o)) (arrL nt code)) := by
          unfold rowC
          rw [if_neg d2]
          refine smN_cg fun i _ => ?_
          by_cases z : i = 0
          · rw [if_pos (Or.inr (by omega)), if_pos z]
          · rw [if_neg (fun y => y.elim d2 (fun y => z (by omega))), if_neg z]
        rw [e]
        exact hr
    obtain ⟨s1, hs1, hi1⟩ := inner
    obtain ⟨s2, hs2, hi2⟩ := ih (one + 1) (many + rowC dd k one (hitN P nt (fst0 P 0 nc nt (fun _ => 0)) (xS X (oK P 0 nt X o)) (arrL nt code))) s1 (by omega) (by omega) hs1
    refine ⟨s2, hs2, fun r hr => hi1 r (hi2 r ?_)⟩
    rw [smN_hd] at hr
    have e : many + rowC dd k one (hitN P nt (fst0 P 0 nc nt (fun _ => 0)) (xS X (oK P 0 nt X o)) (arrL nt code)) + smN (fun i => rowC dd k (one + 1 + i) (hitN P nt (fst0 P 0 nc nt (fun _ => 0)) (xS X (oK P 0 nt X o)) (arrL nt code))) m = many + (rowC dd k (one + 0) (hitN P nt (fst0 P 0 nc nt (fun _ => 0)) (xS X (oK P 0 nt X o)) (arrL nt code)) + smN (fun i => rowC dd k (one + (i + 1)) (hitN P nt (fst0 P 0 nc nt (fun _ => 0)) (xS X (oK P 0 nt X o)) (arrL nt code))) m) := by
      rw [Nat.add_zero, Nat.add_assoc]
      congr 2
      exact smN_cg fun i _ => by rw [show one + 1 + i = one + (i + 1) by omega]
    rw [e]
    exact hr
end CHZ

