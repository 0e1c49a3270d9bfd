/-! CHANCES, both sides. -/
/-- the model's picture while runs are drawn; σ0, F0: as it was -/
abbrev dmS (P : Nat → fI) (nc nl nt n : Nat) (X : xT) (σ0 : qS) (F0 : fI) (s : qS) : Prop := ∃ (σ : qS) (F sr y g : fI) (D : Int64), s = mM σ F sr y g D ∧ dmI P nc nl nt n X σ F ∧ ((∀ c, c ≠ 190 → c ≠ 231 → c ≠ 232 → σ.1 c = σ0.1 c) ∧ σ.2 = σ0.2) ∧ dmG F0 F
section CHA
variable {en : pN} {d d' p w nc nl nt n t k r m o q u : Nat} {P : Nat → fI} {σ σ' σ0 s τ : qS} {F F' F0 N sr y g : fI} {D : Int64} {L : Nat → Nat} {X : xT} {fw : Bool} {a b c : Int32}
theorem m_endsS (hBx : MBx P nc nl nt n) (hP : PV P nc nl nt n) (hX : XV P 0 nc nl nt n X) (hin : ∀ c, c < nc → inR (P 4 c)) (ho : o < (outL P 0 nt (xS X) (xN X)).length) {one oth oo : Nat} (h1 : one < 2 ^ 30) (h2 : oth < 2 ^ 30) (hoo : oo < facN nt) (hs : dmS P nc nl nt n X σ0 F0 s) (hc : cmpP nt (s.1 231) (gtL (ordL nt oo))) (hb : ∀ t, t < nt → 0 ≤ (s.1 231 t).toInt ∧ (s.1 231 t).toInt ≤ 4) (h0 : s.1 232 0 = nI one) (h1' : s.1 232 1 = nI oth) :
    ∃ (v : Nat) (s' : qS), (v = 0 ∨ v = 1) ∧ qev en (d + 8) 378 [.ref 151, .int (nI o)] s = some (some (.int (nI v)), s') ∧ dmS P nc nl nt n X σ0 F0 s' ∧ v = hitN P nt (fst0 P 0 nc nt (fun _ => 0)) (xS X (oK P 0 nt X o)) (ordL nt oo) one oth := by
  have ht4 := hP.2.2.1.2
  obtain ⟨σ, F, sr, y, g, D, rfl, hI, hF, hG⟩ := hs
  have e231 : (mM σ F sr y g D).1 231 = σ.1 231 := mM_o (by decide) (by decide) (by decide) (by decide)
  have e232 : (mM σ F sr y g D).1 232 = σ.1 232 := mM_o (by decide) (by decide) (by decide) (by decide)
  rw [e231] at hc hb
  rw [e232] at h0 h1'
  obtain ⟨-, hPL⟩ := okPL_PL (ord_ok nt (by omega) oo hoo)
  obtain ⟨s', y', e300, hR, -⟩ := m_first (en := en) (d := d + 4) (w := 0) (N := fun _ => 0) (s := sr) (y := y) (g := g) (D := D) hI.1 (by decide) hP.1.2 ht4 hI.2.1.1 hI.2.1.2.1 hI.2.1.2.2
  let F1 : fI := upd (upd (upd F 59 (nI 2)) 58 (nI 0)) 60 (nI (wid 0))
  have hG1 : dmG F F1 := fun j hj => (pk_un (by omega)).trans ((pk_un (by omega)).trans (pk_un (by omega)))
  obtain ⟨rb, σ1, F2, s2, y2, g2, D2, e1, e2, e3, e4⟩ := m_ends8 (en := en) (d := d) hP hX ho h1 h2 201 0 (gtL (ordL nt oo)) σ F1 s' y' g (fst0 P 0 nc nt (fun _ => 0)) D (by omega) (hI.fr dmF.rf hG1) ((pk_un (by decide)).trans pk_us) ((pk_un (by decide)).trans ((pk_un (by decide)).trans pk_us)) pk_us hR (f0_SV hP (by decide) hin) hPL hc (fun t ht => by have := hb t ht; omega) h0 h1'
  have hq : qev en (d + 8) 378 [.ref 151, .int (nI o)] (mM σ F sr y g D) = some (some (.int (bt rb)), mM σ1 F2 s2 y2 g2 D2) := by
    refine le_X12_endsWith en _ _ _ _ ?_
    have e300' : qev en (d + 7) 300 [.ref 151, .int (2 : Int32), .int (0 : Int32)] (mM σ F sr y g D) = some (none, mM σ F1 s' y' g D) := e300
    rw [e300', bV_some]
    exact e1
  have hS : dmS P nc nl nt n X σ0 F0 (mM σ1 F2 s2 y2 g2 D2) := ⟨σ1, F2, s2, y2, g2, D2, rfl, (hI.fr dmF.rf hG1).fr e2 e3, ⟨fun c a1 a2 a3 => (e2.1 c a1 a2).trans (hF.1 c a1 a2 a3), e2.2.trans hF.2⟩, (hG.tr hG1).tr e3⟩
  rw [← hit_iff] at e4
  rcases @hit_01 nt P (fst0 P 0 nc nt (fun _ => 0)) (xS X (oK P 0 nt X o)) (ordL nt oo) one oth with z | z
  · cases rb with
    | true => have := e4.mp rfl; omega
    | false => exact ⟨0, _, Or.inl rfl, hq, hS, z.symm⟩
  · cases rb with
    | true => exact ⟨1, _, Or.inr rfl, hq, hS, z.symm⟩
    | false => have := e4.mpr z; cases this
/-- the numbers drawn of a row -/
def dr0 (dd k r : Nat) : Nat := if dd ≤ 1 then 0 else 1 + r % k
def dr1 (dd k r : Nat) : Nat := if dd ≤ 2 then 0 else 1 + r / k
def rowsN (dd k : Nat) : Nat := if dd = 1 then 1 else if dd = 2 then k else k * k
theorem dmS_w {x : fI} (hs : dmS P nc nl nt n X σ0 F0 s) : dmS P nc nl nt n X σ0 F0 (uIr s 232 x) := by
  obtain ⟨σ, F, sr, y, g, D, rfl, hI, hF, hG⟩ := hs
  refine ⟨uIr σ 232 x, F, sr, y, g, D, mM_Ir (by decide) (by decide) (by decide) (by decide), ⟨mb_cg (fun c _ _ _ => uIr_ne (by omega)) hI.1, hI.2.1, fun i hi j hj => by rw [uIr_ne (by decide)]; exact hI.2.2.1 i hi j hj, fun j hj => by rw [uIr_ne (by decide), uIr_ne (by decide)]; exact hI.2.2.2 j hj⟩, ⟨fun c a1 a2 a3 => (uIr_ne a3).trans (hF.1 c a1 a2 a3), hF.2⟩, hG⟩
theorem dmS_18 (hs : dmS P nc nl nt n X σ0 F0 s) : s.1 151 18 = nI nt := by
  obtain ⟨σ, F, sr, y, g, D, rfl, hI, -⟩ := hs
  rw [mM_F]; exact hI.2.1.2.2
theorem dmS_o (hs : dmS P nc nl nt n X σ0 F0 s) (h : ∀ c, c ≠ 231 → σ'.1 c = s.1 c) (h2 : σ'.2 = s.2) : dmS P nc nl nt n X σ0 F0 σ' := by
  obtain ⟨σ, F, sr, y, g, D, rfl, hI, hF, hG⟩ := hs
  refine ⟨uIr σ 231 (σ'.1 231), F, sr, y, g, D, ?_, ⟨mb_cg (fun c _ _ _ => uIr_ne (by omega)) hI.1, hI.2.1, fun i hi j hj => by rw [uIr_ne (by decide)]; exact hI.2.2.1 i hi j hj, fun j hj => by rw [uIr_ne (by decide), uIr_ne (by decide)]; exact hI.2.2.2 j hj⟩, ⟨fun c a1 a2 a3 => (uIr_ne a2).trans (hF.1 c a1 a2 a3), hF.2⟩, hG⟩
  have : mM (uIr σ 231 (σ'.1 231)) F sr y g D = uIr (mM σ F sr y g D) 231 (σ'.1 231) := (mM_Ir (by decide) (by decide) (by decide) (by decide)).symm
  rw [this]
  refine Prod.ext (funext fun c => ?_) (by rw [h2]; rfl)
  by_cases q : c = 231
  · rw [q, uIr_row]
  · rw [uIr_ne q, h c q]
theorem m_c118 (hBx : MBx P nc nl nt n) (hP : PV P nc nl nt n) (hX : XV P 0 nc nl nt n X) (hin : ∀ c, c < nc → inR (P 4 c)) (ho : o < (outL P 0 nt (xS X) (xN X)).length) {dd k oo : Nat} {q5 : Int32} (hk : 1 ≤ k ∧ k ≤ 12) (hd : 1 ≤ dd ∧ dd ≤ 3) (hoo : oo < facN nt) :
    ∀ (m r many : Nat) (s : qS), r + m = rowsN dd k → dmS P nc nl nt n X σ0 F0 s → ∃ s', dmS P nc nl nt n X σ0 F0 s' ∧ ∀ x, L_X12_chances_108 en (d + 8) (nI o) (nI dd) (nI k) (nI (many + smN (fun i => hitN P nt (fst0 P 0 nc nt (fun _ => 0)) (xS X (oK P 0 nt X o)) (ordL nt oo) (dr0 dd k (r + i)) (dr1 dd k (r + i))) m)) q5 (nI (rowsN dd k)) (nI (oo + 1)) s' = some x → L_X12_chances_118 en (d + 8) (nI o) (nI dd) (nI k) (nI many) q5 (nI (rowsN dd k)) (nI oo) (nI r) s = some x := by
  have ht4 := hP.2.2.1.2
  have hrows : rowsN dd k ≤ 144 := by
    unfold rowsN
    split
    · omega
    · split
      · omega
      · exact Nat.le_trans (Nat.mul_le_mul hk.2 hk.2) (by decide)
  have hfac : oo < 2 ^ 30 := by
    have : facN nt ≤ 24 := by
      have : nt = 0 ∨ nt = 1 ∨ nt = 2 ∨ nt = 3 ∨ nt = 4 := by omega
      rcases this with z | z | z | z | z <;> subst z <;> decide
    omega
  intro m
  induction m with
  | zero =>
    intro r many s hr hs
    refine ⟨s, hs, fun x hx => le_X12_chances_118 en _ _ _ _ _ _ _ _ _ _ _ ?_⟩
    rw [if_pos (by rw [n_LE (by omega) (by omega)]; omega), show nI oo + (1 : Int32) = nI (oo + 1) from n_ar]
    exact hx
  | succ m ih =>
    intro r many s hr hs
    obtain ⟨s1, e380, ⟨c1, c2⟩, o1, o2⟩ := m_layO (en := en) (d := d + 7) (s := s) ht4 hoo (dmS_18 hs)
    have hs1 := dmS_o hs o1 o2
    have hne : ¬ nI k = 0 := by rw [show (0 : Int32) = nI 0 from rfl, n_EQ (by omega) (by omega)]; omega
    have hrk : r / k ≤ r := Nat.div_le_self _ _
    have hrm : r % k ≤ r := Nat.mod_le _ _
    have ediv : nI r / nI k = nI (r / k) := n_dv (by omega) (by omega)
    have emod : nI r - nI r / nI k * nI k = nI (r % k) := by
      rw [ediv, n_mul, n_sub (Nat.div_mul_le_self _ _)]
      congr 1
      have := Nat.div_add_mod r k
      rw [Nat.mul_comm] at this
      omega
    let s2 : qS := uI (uI s1 232 0 (nI (dr0 dd k r))) 232 1 (nI (dr1 dd k r))
    have es2 : s2 = uIr s1 232 (s2.1 232) := by
      refine Prod.ext (funext fun c => ?_) rfl
      by_cases z : c = 232
      · rw [z, uIr_row]
      · rw [uIr_ne z]
        show (uI (uI s1 232 0 _) 232 1 _).1 c = _
        rw [uI_ne z, uI_ne z]
    have hs2 : dmS P nc nl nt n X σ0 F0 s2 := by rw [es2]; exact dmS_w hs1
    have b0 : dr0 dd k r < 2 ^ 30 := by unfold dr0; split <;> omega
    have b1 : dr1 dd k r < 2 ^ 30 := by unfold dr1; split <;> omega
    have e231 : s2.1 231 = s1.1 231 := by
      show (uI (uI s1 232 0 _) 232 1 _).1 231 = _
      rw [uI_ne (by decide), uI_ne (by decide)]
    obtain ⟨v, s3, hv, e378, hs3, hh⟩ := m_endsS (en := en) (d := d) hBx hP hX hin ho b0 b1 hoo hs2 (by rw [e231]; exact c1) (by rw [e231]; exact c2) (by
      show (uI (uI s1 232 0 _) 232 1 _).1 232 0 = _
      rw [g_I, if_neg (by decide), g_I, if_pos ⟨rfl, rfl⟩]) (by
      show (uI (uI s1 232 0 _) 232 1 _).1 232 1 = _
      rw [g_I, if_pos ⟨rfl, rfl⟩])
    obtain ⟨s4, hs4, hc4⟩ := ih (r + 1) (many + v) s3 (by omega) hs3
    refine ⟨s4, hs4, fun x hx => ?_⟩
    have hx2 := hc4 x (by
      rw [smN_hd] at hx
      have e0 : hitN P nt (fst0 P 0 nc nt (fun _ => 0)) (xS X (oK P 0 nt X o)) (ordL nt oo) (dr0 dd k (r + 0)) (dr1 dd k (r + 0)) = v := by rw [Nat.add_zero]; exact hh.symm
      rw [e0, ← Nat.add_assoc] at hx
      have : smN (fun i => hitN P nt (fst0 P 0 nc nt (fun _ => 0)) (xS X (oK P 0 nt X o)) (ordL nt oo) (dr0 dd k (r + 1 + i)) (dr1 dd k (r + 1 + i))) m = smN (fun i => hitN P nt (fst0 P 0 nc nt (fun _ => 0)) (xS X (oK P 0 nt X o)) (ordL nt oo) (dr0 dd k (r + (i + 1))) (dr1 dd k (r + (i + 1)))) m := smN_cg fun i _ => by rw [show r + 1 + i = r + (i + 1) by omega]
      rw [this]
      exact hx)
    have er : nI r + (1 : Int32) = nI (r + 1) := n_ar
    have l172 : L_X12_chances_172 en (d + 8) (nI o) (nI dd) (nI k) (nI many) q5 (nI (rowsN dd k)) (nI oo) (nI r) 1 (nI (dr1 dd k r)) (uI s1 232 0 (nI (dr0 dd k r))) = some x := by
      refine le_X12_chances_172 en _ _ _ _ _ _ _ _ _ _ _ _ _ ?_
      rw [gd_true (by decide), nm_eq]
      show bI (qev en (d + 8) 378 [.ref 151, .int (nI o)] s2) (fun w3 s4 => if w3 = (0 : Int32) then L_X12_chances_118 en (d + 8) (nI o) (nI dd) (nI k) (nI many + (0 : Int32)) q5 (nI (rowsN dd k)) (nI oo) (nI r + (1 : Int32)) s4 else L_X12_chances_118 en (d + 8) (nI o) (nI dd) (nI k) (nI many + (1 : Int32)) q5 (nI (rowsN dd k)) (nI oo) (nI r + (1 : Int32)) s4) = some x
      rw [e378, bI_some, er]
      rcases hv with z | z
      · rw [z, Nat.add_zero] at hx2
        rw [z, if_pos (show nI 0 = (0 : Int32) from rfl), Int32.add_zero]
        exact hx2
      · rw [z] at hx2
        rw [z, if_neg (show ¬ nI 1 = (0 : Int32) by decide), show nI many + (1 : Int32) = nI (many + 1) from n_ar]
        exact hx2
    have l151 : L_X12_chances_151 en (d + 8) (nI o) (nI dd) (nI k) (nI many) q5 (nI (rowsN dd k)) (nI oo) (nI r) 0 (nI (dr0 dd k r)) s1 = some x := by
      refine le_X12_chances_151 en _ _ _ _ _ _ _ _ _ _ _ _ _ ?_
      rw [gd_true (by decide), nm_eq]
      by_cases q : dd ≤ 2
      · have e1 : dr1 dd k r = 0 := if_pos q
        rw [e1] at l172
        rw [if_pos (by rw [show (2 : Int32) = nI 2 from rfl, n_LE (by omega) (by omega)]; exact q)]
        exact l172
      · have e1 : dr1 dd k r = 1 + r / k := if_neg q
        rw [e1] at l172
        rw [if_neg (by rw [show (2 : Int32) = nI 2 from rfl, n_LE (by omega) (by omega)]; exact q), gd_true hne, ediv, show (1 : Int32) + nI (r / k) = nI (1 + r / k) from n_al]
        exact l172
    refine le_X12_chances_118 en _ _ _ _ _ _ _ _ _ _ _ ?_
    rw [if_neg (by rw [n_LE (by omega) (by omega)]; omega), e380, bV_some]
    by_cases q : dd ≤ 1
    · have e1 : dr0 dd k r = 0 := if_pos q
      rw [e1] at l151
      rw [if_pos (by rw [show (1 : Int32) = nI 1 from rfl, n_LE (by omega) (by omega)]; exact q)]
      exact l151
    · have e1 : dr0 dd k r = 1 + r % k := if_neg q
      rw [e1] at l151
      rw [if_neg (by rw [show (1 : Int32) = nI 1 from rfl, n_LE (by omega) (by omega)]; exact q), gd_true hne, emod, show (1 : Int32) + nI (r % k) = nI (1 + r % k) from n_al]
      exact l151
theorem rows_cnt {dd k : Nat} {h : Nat → Nat → Nat} (hk : 1 ≤ k) (hd : 1 ≤ dd ∧ dd ≤ 3) (hh : ∀ i j, h i j = h j i) : smN (fun r => h (dr0 dd k (0 + r)) (dr1 dd k (0 + r))) (rowsN dd k) = cntC dd k h := by
  unfold rowsN cntC
  by_cases d1 : dd = 1
  · rw [if_pos d1, if_pos d1]
    show 0 + h (dr0 dd k (0 + 0)) (dr1 dd k (0 + 0)) = _
    unfold dr0 dr1
    rw [if_pos (by omega), if_pos (by omega), Nat.zero_add]
  · rw [if_neg d1, if_neg d1]
    by_cases d2 : dd = 2
    · rw [if_pos d2, if_pos d2]
      refine smN_cg fun i hi => ?_
      unfold dr0 dr1
      rw [if_neg (by omega), if_pos (by omega), Nat.zero_add, Nat.mod_eq_of_lt hi, Nat.add_comm]
    · rw [if_neg d2, if_neg d2]
      have e1 : smN (fun r => h (dr0 dd k (0 + r)) (dr1 dd k (0 + r))) (k * k) = smN (fun r => (fun i j => h (i + 1) (j + 1)) (r % k) (r / k)) (k * k) := smN_cg fun i _ => by
        unfold dr0 dr1
        rw [if_neg (by omega), if_neg (by omega), Nat.zero_add, Nat.add_comm 1, Nat.add_comm 1]
      refine (e1.trans (sm_rows (F := fun i j => h (i + 1) (j + 1)) hk k)).trans ((sm_half (F := fun i j => h (i + 1) (j + 1)) (fun i j => hh _ _) k).trans (smN_cg fun i _ => smN_cg fun j _ => ?_))
      show _ * h (i + 1) (i + j + 1) = _ * h (i + 1) (i + 1 + j)
      rw [show i + j + 1 = i + 1 + j by omega]
theorem m_c108 (hBx : MBx P nc nl nt n) (hP : PV P nc nl nt n) (hX : XV P 0 nc nl nt n X) (hin : ∀ c, c < nc → inR (P 4 c)) (ho : o < (outL P 0 nt (xS X) (xN X)).length) {dd k : Nat} (hk : 1 ≤ k ∧ k ≤ 12) (hd : 1 ≤ dd ∧ dd ≤ 3) :
    ∀ (m oo many : Nat) (s : qS), oo + m = facN nt → dmS P nc nl nt n X σ0 F0 s → ∃ s', dmS P nc nl nt n X σ0 F0 s' ∧ L_X12_chances_108 en (d + 8) (nI o) (nI dd) (nI k) (nI many) (nI (facN nt)) (nI (rowsN dd k)) (nI oo) s = some (some (.int (nI (many + smN (fun i => cntC dd k (hitN P nt (fst0 P 0 nc nt (fun _ => 0)) (xS X (oK P 0 nt X o)) (ordL nt (oo + i)))) m))), s') := by
  have ht4 := hP.2.2.1.2
  have hfac : facN nt ≤ 24 := by
    have : nt = 0 ∨ nt = 1 ∨ nt = 2 ∨ nt = 3 ∨ nt = 4 := by omega
    rcases this with z | z | z | z | z <;> subst z <;> decide
  intro m
  induction m with
  | zero =>
    intro oo many s hj hs
    refine ⟨s, hs, le_X12_chances_108 en _ _ _ _ _ _ _ _ _ _ ?_⟩
    rw [if_pos (by rw [n_LE (by omega) (by omega)]; omega)]
    rfl
  | succ m ih =>
    intro oo many s hj hs
    obtain ⟨s1, hs1, h1⟩ := m_c118 (en := en) (d := d) (q5 := nI (facN nt)) hBx hP hX hin ho hk hd (show oo < facN nt by omega) (rowsN dd k) 0 many s (by omega) hs
    rw [rows_cnt (h := hitN P nt (fst0 P 0 nc nt (fun _ => 0)) (xS X (oK P 0 nt X o)) (ordL nt oo)) hk.1 hd (fun i j => hitN_sw)] at h1
    obtain ⟨s2, hs2, h2⟩ := ih (oo + 1) (many + cntC dd k (hitN P nt (fst0 P 0 nc nt (fun _ => 0)) (xS X (oK P 0 nt X o)) (ordL nt oo))) s1 (by omega) hs1
    refine ⟨s2, hs2, le_X12_chances_108 en _ _ _ _ _ _ _ _ _ _ ?_⟩
    rw [if_neg (by rw [n_LE (by omega) (by omega)]; omega)]
    refine h1 _ ?_
    rw [h2, smN_hd]
    have e : many + cntC dd k (hitN P nt (fst0 P 0 nc nt (fun _ => 0)) (xS X (oK P 0 nt X o)) (ordL nt oo)) + smN (fun i => cntC dd k (hitN P nt (fst0 P 0 nc nt (fun _ => 0)) (xS X (oK P 0 nt X o)) (ordL nt (oo + 1 + i)))) m = many + (cntC dd k (hitN P nt (fst0 P 0 nc nt (fun _ => 0)) (xS X (oK P 0 nt X o)) (ordL nt (oo + 0))) + smN (fun i => cntC dd k (hitN P nt (fst0 P 0 nc nt (fun _ => 0)) (xS X (oK P 0 nt X o)) (ordL nt (oo + (i + 1))))) m) := by
      rw [Nat.add_zero, Nat.add_assoc]
      congr 2
      exact smN_cg fun i _ => by rw [show oo + 1 + i = oo + (i + 1) by omega]
    rw [e]
theorem xcF.Fl (h : xcF P w nc nl nt p fw X σ F) (h5 : F' 5 = F 5) (h6 : F' 6 = F 6) (h8 : F' 8 = F 8) : xcF P w nc nl nt p fw X σ F' := by
  obtain ⟨⟨⟨a1, a2, a3, a4, a5⟩, d1⟩, z⟩ := h
  exact ⟨⟨⟨a1, ⟨by rw [h5]; exact a2.1, a2.2⟩, by rw [h6]; exact a3, by rw [h8]; exact a4, a5⟩, d1⟩, z⟩
/-- what chances may change -/
abbrev frCx (τ τ' : qS) : Prop := (∀ c, c ≠ 7 → c ≠ 10 → c ≠ 71 → c ≠ 72 → c ≠ 95 → τ'.1 c = τ.1 c) ∧ (∀ j, j ≠ 4 → τ'.1 7 j = τ.1 7 j) ∧ (∀ a, a ≠ 94 → τ'.2.1 a = τ.2.1 a) ∧ τ'.2.2 = τ.2.2
abbrev frCm (σ σ' : qS) : Prop := (∀ c, c ≠ 151 → c ≠ 187 → c ≠ 188 → c ≠ 189 → c ≠ 190 → c ≠ 231 → c ≠ 232 → σ'.1 c = σ.1 c) ∧ (∀ j, j < 58 ∨ j = 61 ∨ 74 ≤ j → σ'.1 151 j = σ.1 151 j) ∧ (∀ c, c ≠ 151 → σ'.2.1 c = σ.2.1 c) ∧ (∀ j, j ≠ 72 → σ'.2.1 151 j = σ.2.1 151 j) ∧ σ'.2.2 = σ.2.2
theorem chances_alike (hP : PV P nc nl nt n) (hX : XV P w nc nl nt n X) (hw2 : w ≤ 2) (hin : ∀ c, c < nc → inR (P 4 c)) (hx : EXx P w nc nl nt n p fw X τ) (hm : EXm P w nc nl nt n fw X σ) :
    ∃ (r : Int32) (τ' σ' : qS), qev en (d + 9) 227 [.ref 0, .int a, .int b, .int c] τ = some (some (.int r), τ') ∧ qev en (d' + 9) 379 [.ref 151, .int a, .int b, .int c] σ = some (some (.int r), σ') ∧ frCx τ τ' ∧ frCm σ σ' ∧ EXx P w nc nl nt n p fw X τ' ∧ EXm P w nc nl nt n fw X σ' := by
  have rfx : frCx τ τ := ⟨fun _ _ _ _ _ _ => rfl, fun _ _ => rfl, fun _ _ => rfl, rfl⟩
  have rfm : frCm σ σ := ⟨fun _ _ _ _ _ _ _ _ => rfl, fun _ _ => rfl, fun _ _ => rfl, fun _ _ => rfl, rfl⟩
  obtain ⟨fx, fxS, fx0⟩ := hx.flat
  obtain ⟨fm, ⟨-, -, -, g4, -⟩, -, f98, f99, -⟩ := hm.flat
  have ht4 := hP.2.2.1.2
  have hw71 : τ.1 71 8 = nI w := fx.1.1.2.2.2.1
  rcases hasOut_alike (en := en) (d := d + 7) (d' := d' + 7) (a := a) hX hx hm with ⟨e1, e2⟩ | ⟨o, ho, rfl, e1, e2⟩
  · refine ⟨-1, τ, σ, le_X11_chances en _ _ _ _ _ _ ?_, le_X12_chances en _ _ _ _ _ _ ?_, rfx, rfm, hx, hm⟩
    · rw [e1, bI_some, if_pos rfl]
    · rw [e2, bI_some, if_pos rfl]
  by_cases hw0 : w = 0
  rotate_left
  · have h : ¬ nI w = (0 : Int32) := by rw [show (0 : Int32) = nI 0 from rfl, n_EQ (by omega) (by omega)]; exact hw0
    refine ⟨-1, τ, σ, le_X11_chances en _ _ _ _ _ _ ?_, le_X12_chances en _ _ _ _ _ _ ?_, rfx, rfm, hx, hm⟩
    · rw [e1, bI_some, if_neg (by decide), hw71, if_pos h]
    · rw [e2, bI_some, if_neg (by decide), f99, if_pos h]
  subst hw0
  have n0 : ¬ ¬ nI 0 = (0 : Int32) := not_not_intro rfl
  by_cases hb1 : b < 1
  · refine ⟨-1, τ, σ, le_X11_chances en _ _ _ _ _ _ ?_, le_X12_chances en _ _ _ _ _ _ ?_, rfx, rfm, hx, hm⟩
    · rw [e1, bI_some, if_neg (by decide), hw71, if_neg n0, if_pos hb1]
    · rw [e2, bI_some, if_neg (by decide), f99, if_neg n0, if_pos hb1]
  by_cases hb3 : 3 < b
  · refine ⟨-1, τ, σ, le_X11_chances en _ _ _ _ _ _ ?_, le_X12_chances en _ _ _ _ _ _ ?_, rfx, rfm, hx, hm⟩
    · rw [e1, bI_some, if_neg (by decide), hw71, if_neg n0, if_neg hb1, if_pos hb3]
    · rw [e2, bI_some, if_neg (by decide), f99, if_neg n0, if_neg hb1, if_pos hb3]
  by_cases hc1 : c < 1
  · refine ⟨-1, τ, σ, le_X11_chances en _ _ _ _ _ _ ?_, le_X12_chances en _ _ _ _ _ _ ?_, rfx, rfm, hx, hm⟩
    · rw [e1, bI_some, if_neg (by decide), hw71, if_neg n0, if_neg hb1, if_neg hb3, if_pos hc1]
    · rw [e2, bI_some, if_neg (by decide), f99, if_neg n0, if_neg hb1, if_neg hb3, if_pos hc1]
  by_cases hc12 : c ≤ 12
  rotate_left
  · refine ⟨-1, τ, σ, le_X11_chances en _ _ _ _ _ _ ?_, le_X12_chances en _ _ _ _ _ _ ?_, rfx, rfm, hx, hm⟩
    · rw [e1, bI_some, if_neg (by decide), hw71, if_neg n0, if_neg hb1, if_neg hb3, if_neg hc1, if_neg hc12]
    · rw [e2, bI_some, if_neg (by decide), f99, if_neg n0, if_neg hb1, if_neg hb3, if_neg hc1, if_neg hc12]
  obtain ⟨dd, hdd, rfl⟩ := nI_of (x := b) (fun z => by
    have h1 := Int32.lt_iff_toInt_lt.mp z
    have h2 := Int32.le_iff_toInt_le.mp (Int32.not_lt.mp hb1)
    have h1 : b.toInt < 0 := h1
    have h2 : 1 ≤ b.toInt := h2
    omega)
  obtain ⟨k, hk, rfl⟩ := nI_of (x := c) (fun z => by
    have h1 := Int32.lt_iff_toInt_lt.mp z
    have h2 := Int32.le_iff_toInt_le.mp (Int32.not_lt.mp hc1)
    have h1 : c.toInt < 0 := h1
    have h2 : 1 ≤ c.toInt := h2
    omega)
  have d1 : 1 ≤ dd := by
    rw [show (1 : Int32) = nI 1 from rfl, n_LT hdd (by omega)] at hb1; omega
  have d3 : dd ≤ 3 := by
    rw [show (3 : Int32) = nI 3 from rfl, n_LT (by omega) hdd] at hb3; omega
  have k1 : 1 ≤ k := by
    rw [show (1 : Int32) = nI 1 from rfl, n_LT hk (by omega)] at hc1; omega
  have k12 : k ≤ 12 := by
    rw [show (12 : Int32) = nI 12 from rfl, n_LE hk (by omega)] at hc12; exact hc12
  have hBx : MBx P nc nl nt n := ⟨σ, 2, fm.1⟩
  have hsx : drS P nc nl nt n p X τ (τ.1 71) τ := ⟨τ, τ.1 71, τ.1 72, τ.1 7 4, τ.1 10, (mS_id (σ := τ) (m := 71)).symm, ⟨fx.1.1.1, fx.1.1.2.1, hw71, fx.1.2.1.2.2.1⟩, drF.rf, fun _ _ _ _ _ => rfl, fxS, fx0⟩
  obtain ⟨τ', x1, x2⟩ := x_counts (en := en) (d := d) hBx hP hX hin ho k12 ⟨d1, d3⟩ hsx
  have hsm : dmS P nc nl nt n X σ (σ.1 151) σ := ⟨σ, σ.1 151, σ.1 187, σ.1 188, σ.1 189, σ.2.1 151 72, mM_id.symm, ⟨fm.1, fm.2.1, fm.2.2.1.2.2.2, fun j hj => g4.2.1 j hj⟩, ⟨fun _ _ _ _ => rfl, rfl⟩, fun _ _ => rfl⟩
  obtain ⟨σ', m1, m2⟩ := m_c108 (en := en) (d := d') hBx hP hX hin ho ⟨k1, k12⟩ ⟨d1, d3⟩ (facN nt) 0 0 σ (by omega) hsm
  have esum : 0 + smN (fun i => cntC dd k (hitN P nt (fst0 P 0 nc nt (fun _ => 0)) (xS X (oK P 0 nt X o)) (ordL nt (0 + i)))) (facN nt) = chnN P nc nt X o dd k := by
    rw [Nat.zero_add]
    have h := sm_orders (nt := nt) (q := fun l => cntC dd k (hitN P nt (fst0 P 0 nc nt (fun _ => 0)) (xS X (oK P 0 nt X o)) l)) (by omega)
    have e2 : smN (fun i => cntC dd k (hitN P nt (fst0 P 0 nc nt (fun _ => 0)) (xS X (oK P 0 nt X o)) (ordL nt (0 + i)))) (facN nt) = smN (fun i => cntC dd k (hitN P nt (fst0 P 0 nc nt (fun _ => 0)) (xS X (oK P 0 nt X o)) (ordL nt i))) (facN nt) := smN_cg fun i _ => by rw [Nat.zero_add]
    rw [e2]
    exact h.symm
  rw [esum] at m2
  refine ⟨nI (chnN P nc nt X o dd k), τ', σ', le_X11_chances en _ _ _ _ _ _ ?_, le_X12_chances en _ _ _ _ _ _ ?_, ?_, ?_, ?_, ?_⟩
  · rw [e1, bI_some, if_neg (by decide), hw71, if_neg n0, if_neg hb1, if_neg hb3, if_neg hc1, if_pos hc12, x2, bI_some]
  · have l80 : ∀ x : Nat, x = facN nt → L_X12_chances_80 en (d' + 8) (nI o) (nI dd) (nI k) 0 (nI x) σ = some (some (.int (nI (chnN P nc nt X o dd k))), σ') := fun x hx => by
      refine le_X12_chances_80 en _ _ _ _ _ _ _ _ ?_
      rw [hx]
      by_cases q1 : dd = 1
      · have er : rowsN dd k = 1 := if_pos q1
        rw [er] at m2
        rw [if_neg (not_not_intro (by rw [q1]; rfl))]
        exact m2
      · rw [if_pos (by rw [show (1 : Int32) = nI 1 from rfl, n_EQ (by omega) (by omega)]; exact q1)]
        by_cases q2 : dd = 2
        · have er : rowsN dd k = k := (if_neg q1).trans (if_pos q2)
          rw [er] at m2
          rw [if_neg (not_not_intro (by rw [q2]; rfl))]
          exact m2
        · have er : rowsN dd k = k * k := (if_neg q1).trans (if_neg q2)
          rw [er] at m2
          rw [if_pos (by rw [show (2 : Int32) = nI 2 from rfl, n_EQ (by omega) (by omega)]; exact q2), n_mul]
          exact m2
    have h18 : σ.1 151 18 = nI nt := fm.2.1.2.2
    rw [e2, bI_some, if_neg (by decide), f99, if_neg n0, if_neg hb1, if_neg hb3, if_neg hc1, if_pos hc12, h18]
    have : nt = 0 ∨ nt = 1 ∨ nt = 2 ∨ nt = 3 ∨ nt = 4 := by omega
    rcases this with z | z | z | z | z
    · rw [if_neg (by rw [z]; decide)]; exact l80 1 (by rw [z]; rfl)
    · rw [if_neg (by rw [z]; decide)]; exact l80 1 (by rw [z]; rfl)
    · rw [if_pos (by rw [z]; decide), if_neg (by rw [z]; decide)]; exact l80 2 (by rw [z]; rfl)
    · rw [if_pos (by rw [z]; decide), if_pos (by rw [z]; decide), if_neg (by rw [z]; decide)]; exact l80 6 (by rw [z]; rfl)
    · rw [if_pos (by rw [z]; decide), if_pos (by rw [z]; decide), if_pos (by rw [z]; decide)]; exact l80 24 (by rw [z]; rfl)
  · obtain ⟨ρ, F, N, b, G, rfl, -, hF, -, -, -⟩ := x1
    exact ⟨fun c h1 h2 h3 h4 h5 => by rw [mS_o h3 h4 h2 h1]; exact hF.1 c h5, fun j hj => by rw [mS_7 (Or.inl rfl) hj, hF.1 7 (by decide)], hF.2.1, hF.2.2⟩
  · obtain ⟨ρ, F, sr, y, g, D, rfl, -, hF, hG⟩ := m1
    refine ⟨fun c h1 h2 h3 h4 h5 h6 h7 => by rw [mM_o h1 h2 h3 h4]; exact hF.1 c h5 h6 h7, fun j hj => by rw [mM_F]; exact hG j hj, fun c hc => by rw [mM_J hc, hF.2], fun j hj => ?_, by show ρ.2.2 = _; rw [hF.2]⟩
    show (if (151 : Nat) = 151 ∧ j = 72 then D else ρ.2.1 151 j) = _
    rw [if_neg (fun z => hj z.2), hF.2]
  · obtain ⟨ρ, F, N, b, G, rfl, -, hF, hFF, hS, h0⟩ := x1
    have hp := fx.1.1.1.2.1
    exact ⟨ρ, F, N, G, b, rfl, (fx.fl ⟨fun c hc => hF.1 c (by omega), fun j _ => by rw [hF.1 70 (by decide)], hF.2.1 84 (by decide), by rw [hF.2.2]⟩).Fl (hFF 5 (by decide) (by decide) (by decide) (by decide)) (hFF 6 (by decide) (by decide) (by decide) (by decide)) (hFF 8 (by decide) (by decide) (by decide) (by decide)), hS, h0⟩
  · obtain ⟨ρ, F, sr, y, g, D, rfl, hI, hF, hG⟩ := m1
    exact hm.fl (mb_cg (fun c h1 h2 h3 => mM_o h3 (by omega) (by omega) (by omega)) hI.1) ⟨fun c h1 h2 => by rw [mM_o (by omega) (by omega) (by omega) (by omega)]; exact hF.1 c (by omega) (by omega) (by omega), fun j hj => by rw [mM_F]; exact hG j (by omega)⟩
end CHA
