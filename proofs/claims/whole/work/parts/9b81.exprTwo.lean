/-! THE READER: an expression on both sides: prefixes, brackets. -/
abbrev oneOK (en : pN) (d' : Nat) (v1 : Int32) (lw : Bool) (q bs u : Nat) (B : Nat → Nat) (n : Nat) (V : Nat → Nat) (nc nl nt dp F : Nat) : Prop := ∀ (b D : Nat) (s t : qS) (U : Nat → Nat → Nat) (cl : Nat → Nat) (i ct m k : Nat) (pl : Nat → Nat), F ≤ D → eS lw q bs u B n s t V U cl nc nl nt i ct m m k pl → m + k = ct + b → b ≤ k → b ≤ dp - 1 → k - epC pl k ≤ dp - 1 → oneR en d' v1 lw q bs u B n b dp (qev en D 139 [.ref 65, .int (nI dp)] s) (L_X12_readExp_20 en (d' + 8) v1 (nI b) (nI (dp - 1)) 1 0 t) s t V cl nc nl nt (ct + 1) m k pl
section EXW2
variable {en : pN} {d d' k K q bs u n i i' ct ct' m m' m0 c c' c0 k' nc nl nt a b z h dp F p x j r l l0 y f D d0 e : Nat} {lw : Bool} {V cl cl' : Nat → Nat} {U U' : Nat → Nat → Nat} {pl pl' : Nat → Nat} {s s' s'' t t' t'' : qS} {B : Nat → Nat} {O Q M W v w v1 v2 v3 v4 v5 a2 : Int32} {R X : Option qR}
/-- the model at a prefix or bracket -/
theorem m_159p (hm : mtL t B n i) (hy : tkK B n i = 40 ∨ tkK B n i = 45 ∨ tkK B n i = 33) : ∀ r, L_X12_readExp_195 en (d' + 1) v1 v2 v3 v4 v5 t = some r → L_X12_readExp_159 en (d' + 1) v1 v2 v3 v4 v5 t = some r := by
  intro r hr
  obtain ⟨k1, -, -, k4⟩ := kdM_v (tkK_lt hm.1.2.2)
  have m3 := hm.2.2.2.2.2.1
  have eq : ∀ y : Nat, 4 ≤ y → y < 300 → (tkK B n i = y ↔ t.1 151 3 = nI y) := fun y h1 h2 => by rw [m3, n_EQ (by omega) (by omega)]; exact (k4 y h1 h2).symm
  have e40 : t.1 151 3 = (40 : Int32) ↔ tkK B n i = 40 := (eq 40 (by decide) (by decide)).symm
  have e45 : t.1 151 3 = (45 : Int32) ↔ tkK B n i = 45 := (eq 45 (by decide) (by decide)).symm
  have e33 : t.1 151 3 = (33 : Int32) ↔ tkK B n i = 33 := (eq 33 (by decide) (by decide)).symm
  refine le_X12_readExp_159 en _ _ _ _ _ _ _ _ ?_
  rw [m_goodL hm.2.1, bI_some, if_pos (by decide)]
  by_cases z1 : t.1 151 3 = (40 : Int32)
  · rw [if_pos z1]; exact hr
  · rw [if_neg z1]
    by_cases z2 : t.1 151 3 = (45 : Int32)
    · rw [if_pos z2]; exact hr
    · rw [if_neg z2, if_neg (not_not_intro (e33.mpr ((hy.resolve_left (fun z => z1 (e40.mpr z))).resolve_left (fun z => z2 (e45.mpr z)))))]; exact hr
/-- the model puts a prefix or bracket onto the pile and goes on -/
theorem m_pushP (hP : pilF t k pl) (hk : k < 2000) (h40 : t.1 151 3 = 40 → K = 22 ∧ w = 1) (h45 : t.1 151 3 = 45 → K = 2 ∧ w = 0) (hno : t.1 151 3 ≠ 40 → t.1 151 3 ≠ 45 → K = 3 ∧ w = 0) : ∀ r, bV (qev en d' 249 [.ref 151] (uI (uI t 163 k (nI K)) 151 31 (nI (k + 1)))) (fun s2 => L_X12_readExp_20 en d' v1 (v2 + w) (v3 + (1 : Int32)) v4 v5 s2) = some r → L_X12_readExp_208 en d' v1 v2 v3 v4 v5 t = some r := by
  intro r hr
  have g270 : ∀ K' w', K' = nI K → w' = w → (if ¬ (uI (uI t 163 k K') 151 31 (nI (k + 1))).1 151 3 = (40 : Int32) then L_X12_readExp_270 en d' v1 v3 v4 v5 v2 (0 : Int32) (uI (uI t 163 k K') 151 31 (nI (k + 1))) else L_X12_readExp_270 en d' v1 v3 v4 v5 v2 (1 : Int32) (uI (uI t 163 k K') 151 31 (nI (k + 1)))) = L_X12_readExp_270 en d' v1 v3 v4 v5 v2 w' (uI (uI t 163 k K') 151 31 (nI (k + 1))) → L_X12_readExp_244 en d' v1 v2 v3 v4 v5 (t.1 151 31) K' t = some r := fun K' w' h1 h2 h3 => by
    refine le_X12_readExp_244 en _ _ _ _ _ _ _ _ _ _ ?_
    rw [hP.1, gd_in (by omega) (by decide), n_cl (by omega), nm_eq, show (uI t 163 k K').1 151 31 = nI k from by rw [uI_ne (by decide)]; exact hP.1, show nI k + (1 : Int32) = nI (k + 1) from n_ar, nm_eq, h3]
    refine le_X12_readExp_270 en _ _ _ _ _ _ _ _ _ ?_
    rw [h1, h2]
    exact hr
  have e3 : ∀ K', (uI (uI t 163 k K') 151 31 (nI (k + 1))).1 151 3 = t.1 151 3 := fun K' => by rw [rdU, if_neg (by decide), uI_ne (by decide)]
  refine le_X12_readExp_208 en _ _ _ _ _ _ _ _ ?_
  by_cases z1 : t.1 151 3 = 40
  · rw [if_neg (not_not_intro z1)]
    obtain ⟨g1, g2⟩ := h40 z1
    exact g270 22 1 (by rw [g1]; rfl) g2.symm (by rw [e3, if_neg (not_not_intro z1)])
  · rw [if_pos z1]
    by_cases z2 : t.1 151 3 = 45
    · rw [if_neg (not_not_intro z2)]
      obtain ⟨g1, g2⟩ := h45 z2
      exact g270 2 0 (by rw [g1]; rfl) g2.symm (by rw [e3, if_pos z1])
    · rw [if_pos z2]
      obtain ⟨g1, g2⟩ := hno z1 z2
      exact g270 3 0 (by rw [g1]; rfl) g2.symm (by rw [e3, if_pos z1])
theorem epC_at (hK : K = 2 ∨ K = 3) : epC (at1 pl k K) (k + 1) = epC pl k := by
  show (if at1 pl k K k = 2 ∨ at1 pl k K k = 3 then epC (at1 pl k K) k else k + 1) = _
  rw [at1_s, if_pos hK]
  have : ∀ j, j ≤ k → epC (at1 pl k K) j = epC pl j := by
    intro j
    induction j with
    | zero => intro _; rfl
    | succ j ih =>
      intro hj
      show (if at1 pl k K j = 2 ∨ at1 pl k K j = 3 then epC (at1 pl k K) j else j + 1) = if pl j = 2 ∨ pl j = 3 then epC pl j else j + 1
      rw [at1_n (show j ≠ k by omega), ih (by omega)]
  exact this k (Nat.le_refl k)
/-- the sign of a prefix: the class's, the model's -/
abbrev preK (y K OP : Nat) : Prop := (y = 45 ∧ K = 2 ∧ OP = 4) ∨ (y = 33 ∧ K = 3 ∧ OP = 33)
/-- the class at a prefix -/
theorem x_prefix {s1 s2 s3 s4 : qS} {OP : Nat} (hy : preK y K OP) (hq : q = 7 ∨ q = 61) (c1 : s.1 1 9 = nI y) (h1 : qev en (e + 7) 136 [.ref 65] s = some (some (.int 1), s1)) (h2 : qev en (e + 6) 167 [.ref 1] s1 = some (none, s2)) (h3 : qev en (e + 6) 139 [.ref 65, .int (nI (dp + 1))] s2 = some (none, s3)) (h4 : s3.2.2 65 7 = q + 1) (h5 : qev en (e + 6) 76 [.ref q, .int (nI OP), .int (0 : Int32)] s3 = some (none, s4)) : oneB en (e + 7) dp s = some (none, s4) := by
  have hlc : lc q = 4 := by rcases hq with rfl | rfl <;> rfl
  show (if ¬ (s.1 1 9) = (40 : Int32) then _ else _) = _
  have f73 : ∀ z : Int32, z = nI OP → L_X6_readNode_73 en (e + 6) q z s3 = some (none, s4) := fun z hz => by
    refine le_X6_readNode_73 en _ _ _ _ _ ?_
    rw [gd_true hlc, hz, h5, bV_some]
  have f43 : L_X6_readNode_43 en (e + 6) (nI y) (nI dp) s1 = some (none, s4) := by
    refine le_X6_readNode_43 en _ _ _ _ _ ?_
    rw [h2, bV_some, show nI dp + (1 : Int32) = nI (dp + 1) from n_ar, h3, bV_some, h4, Nat.add_sub_cancel, gd_true ⟨Nat.succ_ne_zero q, hlc⟩, nm_eq]
    rcases hy with ⟨z, -, w⟩ | ⟨z, -, w⟩
    · rw [if_neg (not_not_intro (by rw [z]; rfl))]
      exact f73 4 (by rw [w]; rfl)
    · rw [if_pos (by rw [z]; decide)]
      exact f73 33 (by rw [w]; rfl)
  have e140 : qev en (e + 7) 140 [.ref 65, .int (nI y), .int (nI dp)] s1 = some (none, s4) := by
    refine le_X6_readNode en _ _ _ _ _ ?_
    rcases hy with ⟨z, -, w⟩ | ⟨z, -, w⟩
    · rw [if_pos (by rw [z]; decide), if_pos (by rw [z]; rfl)]; exact f43
    · rw [if_pos (by rw [z]; decide), if_neg (by rw [z]; decide), if_neg (by rw [z]; decide)]; exact f43
  rw [if_pos (by rw [c1]; rcases hy with ⟨z, -⟩ | ⟨z, -⟩ <;> (rw [z]; decide)), h1, bI_some, if_neg (by decide), c1, e140, bV_some]
/-- the model at a prefix -/
theorem m_prefix {t2 : qS} {OP : Nat} {r : qR} (hy : preK (tkK B n i) K OP) (hm : mtL t B n i) (hdp : 1 ≤ dp) (hk : k < 1000) (h1 : qev en (d' + 8) 263 [.ref 151] t = some (none, t2)) (h2 : t2.1 151 3 = t.1 151 3) (h3 : pilF t2 k pl) (hr : bV (qev en (d' + 8) 249 [.ref 151] (uI (uI t2 163 k (nI K)) 151 31 (nI (k + 1)))) (fun s2 => L_X12_readExp_20 en (d' + 8) v1 (nI b) (nI dp) 1 0 s2) = some r) : L_X12_readExp_159 en (d' + 8) v1 (nI b) (nI (dp - 1)) 1 0 t = some r := by
  have m3 : t.1 151 3 = nI (tkK B n i) := by
    rw [hm.2.2.2.2.2.1]
    congr 1
    rcases hy with ⟨z, -⟩ | ⟨z, -⟩ <;> (rw [z]; rfl)
  refine m_159p (d' := d' + 7) hm (Or.inr (by rcases hy with ⟨z, -⟩ | ⟨z, -⟩ <;> simp [z])) r ?_
  refine le_X12_readExp_195 en _ _ _ _ _ _ _ _ ?_
  have e40 : ¬ t.1 151 3 = (40 : Int32) := by
    rw [m3]
    rcases hy with ⟨z, -⟩ | ⟨z, -⟩ <;> (rw [z]; decide)
  rw [if_neg e40, h1, bV_some]
  refine m_pushP (K := K) (w := 0) h3 (Nat.lt_trans hk (by decide)) (fun z => absurd (h2 ▸ z) e40) (fun z => ?_) (fun _ z => ?_) r ?_
  · rcases hy with ⟨y1, y2, -⟩ | ⟨y1, y2, -⟩
    · exact ⟨y2, rfl⟩
    · rw [h2, m3, y1] at z; exact absurd z (by decide)
  · rcases hy with ⟨y1, y2, -⟩ | ⟨y1, y2, -⟩
    · rw [h2, m3, y1] at z; exact absurd rfl z
    · exact ⟨y2, rfl⟩
  · rw [Int32.add_zero, show nI (dp - 1) + (1 : Int32) = nI (dp - 1 + 1) from n_ar, Nat.sub_add_cancel hdp]
    exact hr
/-- the sign put behind its operand -/
theorem oneR_put {OP : Nat} (hq : plcQ lw q bs) (hnd : ndR u OP 0 K 0) (hOP : OP = 4 ∨ OP = 33) (hK : K = 2 ∨ K = 3) (hle : epC pl k ≤ k) (g3 : eS lw q bs u B n s t V U cl nc nl nt i ct z (z + (k + 1 - epC pl k)) (epC pl k) (at1 pl k K)) (g4 : m ≤ z) (g4' : z + (k + 1) = ct + b) (hbk : b ≤ k) (g5 : ndZ lw u s t q bs m z) (g6 : ∀ x, x < k + 1 - epC pl k → t.1 161 (bs + (z + x)) = nI (at1 pl k K (k + 1 - 1 - x)) ∧ t.1 162 (bs + (z + x)) = 0) (g7 : gw (s.1 (q + 1)) (s.1 (q + 2)) m z) : ∃ s6, qev en (e + 2) 76 [.ref q, .int (nI OP), .int (0 : Int32)] s = some (none, s6) ∧ eS lw q bs u B n s6 t V U cl nc nl nt i ct (z + 1) (z + 1 + (k - epC pl k)) (epC pl k) pl ∧ ndZ lw u s6 t q bs m (z + 1) ∧ (∀ x, x < k - epC pl k → t.1 161 (bs + (z + 1 + x)) = nI (pl (k - 1 - x)) ∧ t.1 162 (bs + (z + 1 + x)) = 0) ∧ gw (s6.1 (q + 1)) (s6.1 (q + 2)) m (z + 1) ∧ rxF true q m s s6 := by
  obtain ⟨u1, u2, u3, u4, ⟨u5, u6, u7⟩, ⟨u8, u9, u10⟩, u11⟩ := id g3
  have hq' := hq.qq
  have hz5 : z < 400 := by clear g3 u1 u2 u3 u4 g5 g6 g7; omega
  obtain ⟨s6, b1, b2, b3, b4, b5⟩ := x_put4 (en := en) (d := e) (x := nI OP) (y := 0) hq' u8 hz5
  have q1 : s6.1 1 = s.1 1 := b2.1 1 (by rcases hq' with rfl | rfl <;> decide) (by rcases hq' with rfl | rfl <;> decide) (by rcases hq' with rfl | rfl <;> decide)
  have q4 : s6.1 4 = s.1 4 := b2.1 4 (by rcases hq' with rfl | rfl <;> decide) (by rcases hq' with rfl | rfl <;> decide) (by rcases hq' with rfl | rfl <;> decide)
  have q5 : s6.1 5 = s.1 5 := b2.1 5 (by rcases hq' with rfl | rfl <;> decide) (by rcases hq' with rfl | rfl <;> decide) (by rcases hq' with rfl | rfl <;> decide)
  have q65 : s6.1 65 = s.1 65 := b2.1 65 (by rcases hq' with rfl | rfl <;> decide) (by rcases hq' with rfl | rfl <;> decide) (by rcases hq' with rfl | rfl <;> decide)
  have hE6 : eS lw q bs u B n s6 t V U cl nc nl nt i ct (z + 1) (z + 1 + (k - epC pl k)) (epC pl k) pl := by
    refine eS_fr g3 hq (m0 := 0) (c0 := 0) (rxF.pt b2 hq' (Nat.zero_le _)) rmF.rf ⟨cL_fr u1.1 (fun j _ => by rw [q1]) q4 q5 (by rw [b2.2.2.2]) (by rw [b2.2.2.2]) (by rw [b2.2.2.2]) (fun _ _ => by rw [q65]), u1.2⟩ ⟨by rw [q65]; exact u5, u6, u7⟩ ⟨b5, by rw [u9]; congr 1; clear g3 u1 u2 u3 u4 g5 g6 g7; omega, u10⟩ (fun j hj => ?_)
    have := u11 j hj
    rw [at1_n (show j ≠ k by clear g3 u1 u2 u3 u4 g5 g6 g7; omega)] at this
    exact this
  clear g3 u1 u2 u3 u4 u11
  refine ⟨s6, b1, hE6, fun j j1 j2 => ?_, fun x hx => ?_, ?_, rxF.pt b2 hq' g4⟩
  · clear hE6
    by_cases gj : j = z
    · subst gj
      obtain ⟨f1, f2⟩ := g6 0 (by omega)
      rw [show k + 1 - 1 - 0 = k by omega, at1_s, Nat.add_zero] at f1
      rw [Nat.add_zero] at f2
      exact ⟨OP, K, ndR_op hnd, b3, f1, by rw [b4, f2]; exact hnd, fun _ => by omega⟩
    · obtain ⟨e1, e2⟩ := b2.2.2.1 j gj
      exact nd1_eq (g5 j j1 (by omega)) e1 e2 rfl rfl
  · clear hE6
    obtain ⟨f1, f2⟩ := g6 (x + 1) (by omega)
    rw [show k + 1 - 1 - (x + 1) = k - 1 - x by omega, at1_n (show k - 1 - x ≠ k by omega), show z + (x + 1) = z + 1 + x by omega] at f1
    rw [show z + (x + 1) = z + 1 + x by omega] at f2
    exact ⟨f1, f2⟩
  · clear hE6
    have gA : gw (s6.1 (q + 1)) (s6.1 (q + 2)) m z := gw_ag g7 (fun j _ j2 => b2.2.2.1 j (by omega))
    exact gw_pre gA (ndR_op hnd) (by rcases hOP with z | z <;> (rw [z]; rfl)) (by omega) b3
/-- the model at a prefix, behind a fault -/
theorem m_208D (h : mtD t F p) (hP : pilF t k pl) (hk : k < 1000) : ∃ t', L_X12_readExp_208 en (d' + 8) v1 v2 v3 1 0 t = some (some (.int v1), t') ∧ mtD t' F p ∧ ∀ c0, rmF true c0 t t' := by
  have key : ∀ (K : Nat) (w : Int32), K < 30 → (t.1 151 3 = 40 → K = 22 ∧ w = 1) → (t.1 151 3 = 45 → K = 2 ∧ w = 0) → (t.1 151 3 ≠ 40 → t.1 151 3 ≠ 45 → K = 3 ∧ w = 0) → ∃ t', L_X12_readExp_208 en (d' + 8) v1 v2 v3 1 0 t = some (some (.int v1), t') ∧ mtD t' F p ∧ ∀ c0, rmF true c0 t t' := fun K w hK h1 h2 h3 => by
    have hP3 := pil_push hP (K := K) (show k < 2000 by omega) hK
    have c8' : mtD (uI (uI t 163 k (nI K)) 151 31 (nI (k + 1))) F p := mtD_fr h (by rw [rdU, if_neg (by decide), uI_ne (by decide)]) (by rw [rdU, if_neg (by decide), uI_ne (by decide)])
    obtain ⟨t6, u1, u2, u3⟩ := m_deadExp (en := en) (d := d' + 5) (v1 := v1) (v2 := v2 + w) (v3 := v3 + 1) (v4 := 1) (v5 := 0) (show k + 1 ≤ 2000 by omega) c8' hP3.1 hP3.2
    refine ⟨t6, m_pushP (K := K) (w := w) hP (by omega) h1 h2 h3 _ ?_, u2, fun c0 => rmF.pu.tr (rmF.dd u3) (Nat.le_refl c0)⟩
    rw [show d' + 8 = d' + 6 + 2 from rfl, m_nextD c8', bV_some]
    exact u1
  by_cases z1 : t.1 151 3 = 40
  · exact key 22 1 (by decide) (fun _ => ⟨rfl, rfl⟩) (fun z => by rw [z1] at z; exact absurd z (by decide)) (fun z => absurd z1 z)
  · by_cases z2 : t.1 151 3 = 45
    · exact key 2 0 (by decide) (fun z => absurd z z1) (fun _ => ⟨rfl, rfl⟩) (fun _ z => absurd z2 z)
    · exact key 3 0 (by decide) (fun z => absurd z z1) (fun z => absurd z z2) (fun _ _ => ⟨rfl, rfl⟩)
set_option maxHeartbeats 1000000 in
/-- a prefix -/
theorem one_pre (hI : oneOK en d' v1 lw q bs u B n V nc nl nt (dp + 1) F) (hF : F ≤ e + 6) (hE : eS lw q bs u B n s t V U cl nc nl nt i ct m m k pl) (hq : plcQ lw q bs) (hcnt : m + k = ct + b) (hbk : b ≤ k) (hb : b ≤ dp - 1) (hdp : 1 ≤ dp ∧ dp ≤ 9) (he : k - epC pl k ≤ dp - 1) (hy : tkK B n i = 45 ∨ tkK B n i = 33) (hX : ∀ r, oneB en (e + 7) dp s = some r → R = some r) (hM : ∀ r, L_X12_readExp_159 en (d' + 8) v1 (nI b) (nI (dp - 1)) 1 0 t = some r → X = some r) : oneR en d' v1 lw q bs u B n b dp R X s t V cl nc nl nt (ct + 1) m k pl := by
  obtain ⟨hl, -, -, ⟨h7, -⟩, ⟨x1, x2, x3⟩, ⟨y1, y2, y3⟩, hp⟩ := id hE
  have hq' := hq.qq
  have hle := @epC_le pl k
  obtain ⟨hi, c1, -, -⟩ := cL_at hl.1
  have N : m + (k + 1) = ct + 1 + b ∧ b ≤ k + 1 ∧ b ≤ dp + 1 - 1 ∧ k + 1 - epC pl k ≤ dp + 1 - 1 ∧ k < 1000 ∧ m ≤ 500 ∧ k < 2000 ∧ k + 1 ≤ 2000 ∧ m ≤ 409 := by clear hI hE hl hX hM hp; omega
  obtain ⟨N1, N2, N3, N4, N5, N6, N7, N8, N9⟩ := N
  have hcap : m ≤ ln (q + 1) := by
    clear hI hE hl hX hM hp
    rcases hq' with rfl | rfl
    · exact N6
    · show m ≤ 400; omega
  obtain ⟨K, OP, hKO⟩ : ∃ K OP, preK (tkK B n i) K OP := by
    rcases hy with z | z
    · exact ⟨2, 4, Or.inl ⟨z, rfl, rfl⟩⟩
    · exact ⟨3, 33, Or.inr ⟨z, rfl, rfl⟩⟩
  have hK : K = 2 ∨ K = 3 := by
    rcases hKO with ⟨-, z, -⟩ | ⟨-, z, -⟩
    · exact Or.inl z
    · exact Or.inr z
  have hK30 : K < 30 := by rcases hK with rfl | rfl <;> decide
  have hOP : OP = 4 ∨ OP = 33 := by
    rcases hKO with ⟨-, -, z⟩ | ⟨-, -, z⟩
    · exact Or.inl z
    · exact Or.inr z
  have hnd : ndR u OP 0 K 0 := by
    rcases hKO with ⟨-, z, w⟩ | ⟨-, z, w⟩
    · exact Or.inr (Or.inr (Or.inl ⟨w, z⟩))
    · exact Or.inr (Or.inr (Or.inr (Or.inl ⟨w, z⟩)))
  have hy0 : tkK B n i ≠ 0 := by rcases hy with z | z <;> (rw [z]; decide)
  have hdp1 : dp + 1 - 1 = dp := Nat.add_sub_cancel dp 1
  rcases count_al (en := en) (d := e + 5) (d' := d' + 4) hE hq with ⟨c4, c5, c6, c7⟩ | ⟨t2, c5, c6, ⟨F', p', c7, c8⟩, c9, c10⟩
  · have hE3 := eS_push c7 hq (K := K) N7 hK30
    have hP2 := pil_of c7
    have e23 : (uI t 151 28 (nI (ct + 1))).1 151 3 = t.1 151 3 := by rw [rdU, if_neg (by decide)]
    obtain ⟨s2, t3, a1, a2, a3, a4, a5⟩ := adv_al (en := en) (d := e + 5) (d' := d' + 5) hE3.1 hy0
    have fx2 : rxF true q m s s2 := (rxF.cu hq').tr (rxF.ad a3 hq') (Nat.le_refl _)
    have fm3 : rmF lw (bs + m) t t3 := ((rmF.ui rfl).tr rmF.pu (Nat.le_refl _)).tr (rmF.mv a4) (Nat.le_refl _)
    have hs2 : s2.2.2 65 7 = q + 1 := by rw [fx2.2.2.2.2.2.2]; exact h7
    have hP3 : pilF t3 (k + 1) (at1 pl k K) := pil_mv (pil_of hE3) a4
    rcases a5 with a5 | a5
    · have hE4 := eS_ad hE3 hq a3 a4 a5
      have ep := epC_at (pl := pl) (k := k) hK
      have hI' := hI b (e + 6) s2 t3 U cl (i + 1) (ct + 1) m (k + 1) (at1 pl k K) hF hE4 N1 N2 N3 (by rw [ep]; exact N4)
      clear hE hE3 hE4 c7 a5 hI
      unfold oneR at hI'
      rw [ep, hdp1] at hI'
      rcases hI' with ⟨s5, t5, U5, cl5, i5, ct5, z5, g1, g2, g3, ⟨g4, g4'⟩, g5, g6, g7, g8, g9, g10, g11⟩ | ⟨s5, t5, g1, g2, g3, g4, g5, g6⟩
      · left
        have hs5 : s5.2.2 65 7 = q + 1 := by rw [g10.2.2.2.2.2.2]; exact hs2
        obtain ⟨s6, b1, b2, b3, b4, b5, b6⟩ := oneR_put (en := en) (e := e + 4) hq hnd hOP hK hle g3 g4 g4' hbk g5 g6 g7
        refine ⟨s6, t5, U5, cl5, i5, ct5, z5 + 1, hX _ (x_prefix hKO hq' c1 c5 a1 g1 hs5 b1), fun x hx => hM x (m_prefix hKO hl.2 hdp.1 N5 c6 e23 hP2 ?_), b2, ⟨Nat.le_succ_of_le g4, by clear g3 b2 g2 hl hX hM; omega⟩, b3, b4, b5, by clear g3 b2 g2 hl hX hM; omega, g9, (fx2.wk.tr g10 (Nat.le_refl m)).tr b6.wk (Nat.le_refl m), fm3.tr g11 (Nat.le_refl _)⟩
        rw [a2, bV_some]
        refine g2 x ?_
        rw [show dp - (k + 1 - epC pl k) = dp - 1 - (k - epC pl k) by clear g3 b2 g2 hl hX hM; omega]
        exact hx
      · right
        have hs5 : s5.2.2 65 7 = q + 1 := by rw [g5.2.2.2.2.2.2]; exact hs2
        obtain ⟨s6, b1, b2, b3, b4⟩ := putD_al (en := en) (d := e + 4) (v := nI OP) (w := 0) hq' g4 g3
        refine ⟨s6, t5, hX _ (x_prefix hKO hq' c1 c5 a1 g1 hs5 b1), hM _ (m_prefix hKO hl.2 hdp.1 N5 c6 e23 hP2 ?_), b4, b3, (fx2.wk.tr g5 (Nat.le_refl m)).tr b2.wk (Nat.le_refl m), fm3.tr g6 (Nat.le_refl _)⟩
        rw [a2, bV_some]
        exact g2
    · right
      clear hE hE3 c7 hI
      obtain ⟨F', p', b5, b6⟩ := id a5
      have g1 : qev en (e + 6) 139 [.ref 65, .int (nI (dp + 1))] s2 = some (none, bmS s2 2) := x_deadOne b5
      have hs5 : (bmS s2 2).2.2 65 7 = q + 1 := by rw [(bmS_F (k := 2)).2.2.2]; exact hs2
      have hm3' : mEnd s2 q m := mEnd_tk hq' ⟨m, by rw [rxF_ct3 hq']; exact y1, Nat.le_refl _, hcap⟩ (tnF.ad a3)
      obtain ⟨s6, b1, b2, b3, b4⟩ := putD_al (en := en) (d := e + 4) (v := nI OP) (w := 0) (t := t3) hq' (mEnd_tk hq' hm3' (tnF.bm bmS_F)) ⟨F', p', bmS_dead b5, b6⟩
      obtain ⟨F2, p2', b7, b8⟩ := id b4
      obtain ⟨t6, u1, u2, u3⟩ := m_deadExp (en := en) (d := d' + 5) (v1 := v1) (v2 := nI b) (v3 := nI dp) (v4 := 1) (v5 := 0) N8 b6 hP3.1 hP3.2
      refine ⟨s6, t6, hX _ (x_prefix hKO hq' c1 c5 a1 g1 hs5 b1), hM _ (m_prefix hKO hl.2 hdp.1 N5 c6 e23 hP2 ?_), ⟨F2, p2', b7, mtD_dd b8 u3⟩, b3, ((fx2.tr (rxF.bm bmS_F hq') (Nat.le_refl _)).tr b2 (Nat.le_refl _)).wk, fm3.tr (rmF.dd u3) (Nat.le_refl _)⟩
      rw [a2, bV_some]
      exact u1
  · right
    clear hE hI
    obtain ⟨t6, u1, u2, u3⟩ := m_208D (en := en) (d' := d') (v1 := v1) (v2 := nI b) (v3 := nI (dp - 1)) c8 c10 N5
    have m3 : ¬ t.1 151 3 = (40 : Int32) := by
      rw [hl.2.2.2.2.2.2.1]
      rcases hy with z | z <;> (rw [z]; decide)
    have m3' : ¬ s.1 1 9 = (40 : Int32) := by
      rw [c1]
      rcases hy with z | z <;> (rw [z]; decide)
    refine ⟨bmS s 4, t6, hX _ ?_, hM _ (m_159p (d' := d' + 7) hl.2 (Or.inr hy) _ ?_), ⟨F', p', c7, u2⟩, mEnd_tk hq' ⟨m, y1, Nat.le_refl m, hcap⟩ (tnF.bm bmS_F), rxF.bm bmS_F hq', ((c9 (bs + m)).tr (u3 _) (Nat.le_refl _)).wk⟩
    · show (if ¬ (s.1 1 9) = (40 : Int32) then _ else _) = _
      rw [if_pos m3', c5, bI_some, if_pos rfl]
    · refine le_X12_readExp_195 en _ _ _ _ _ _ _ _ ?_
      rw [if_neg m3, c6, bV_some]
      exact u1
end EXW2
