/-! THE READER: an expression on both sides: levels. -/
def loL (l : Nat) : Nat := if l = 2 then 4 else l + 1
/-- behind a level: what the class's R and the model's X come to -/
abbrev lvR (en : pN) (d' : Nat) (v1 : Int32) (lw : Bool) (q bs u : Nat) (B : Nat → Nat) (n l b dp : Nat) (R X : Option qR) (s t : qS) (V cl : Nat → Nat) (nc nl nt ct m k : Nat) (pl : Nat → Nat) : Prop :=
  (∃ (s' t' : qS) (U' : Nat → Nat → Nat) (cl' : Nat → Nat) (i' ct' z h : Nat) (pl' : Nat → Nat), R = some (none, s') ∧ (∀ x, L_X12_readExp_20 en (d' + 8) v1 (nI b) (nI (dp - 1)) 0 0 t' = some x → X = some x) ∧ lvS lw q bs u B n (l + 1) b s' t' V U' cl' nc nl nt i' ct' m z h k pl' ∧ lvT l k h pl' (tkK B n i') ∧ (∀ j, j < k → pl' j = pl j) ∧ ct ≤ ct' ∧ (∀ w, cl w ≤ cl' w) ∧ rxF lw q m s s' ∧ rmF lw (bs + m) t t') ∨
  (∃ s' t' : qS, R = some (none, s') ∧ X = some (some (.int v1), t') ∧ rdD s' t' ∧ mEnd s' q m ∧ rxF lw q m s s' ∧ rmF lw (bs + m) t t')
/-- sides of a level are alike -/
abbrev sideOK (en : pN) (d' : Nat) (v1 : Int32) (lw : Bool) (q bs u : Nat) (B : Nat → Nat) (n : Nat) (V : Nat → Nat) (nc nl nt b dp l F : Nat) : Prop := ∀ (D : Nat) (s t : qS) (U : Nat → Nat → Nat) (cl : Nat → Nat) (i ct m k : Nat) (pl : Nat → Nat), F ≤ D → eS lw q bs u B n s t V U cl nc nl nt i ct m m k pl → topOK l k pl → m + k = ct + b → b ≤ k → lvR en d' v1 lw q bs u B n l b dp (qev en D 135 [.ref 65, .int (nI l), .int (nI dp)] s) (L_X12_readExp_20 en (d' + 8) v1 (nI b) (nI (dp - 1)) 1 0 t) s t V cl nc nl nt (ct + 1) m k pl
abbrev levelOK (en : pN) (d' : Nat) (v1 : Int32) (lw : Bool) (q bs u : Nat) (B : Nat → Nat) (n : Nat) (V : Nat → Nat) (nc nl nt b dp l F : Nat) : Prop := ∀ (D : Nat) (s t : qS) (U : Nat → Nat → Nat) (cl : Nat → Nat) (i ct m k : Nat) (pl : Nat → Nat), F ≤ D → eS lw q bs u B n s t V U cl nc nl nt i ct m m k pl → topOK l k pl → m + k = ct + b → b ≤ k → lvR en d' v1 lw q bs u B n l b dp (qev en D 134 [.ref 65, .int (nI l), .int (nI dp)] s) (L_X12_readExp_20 en (d' + 8) v1 (nI b) (nI (dp - 1)) 1 0 t) s t V cl nc nl nt (ct + 1) m k pl
section EXV
variable {en : pN} {d d' k K q bs u n i i' ct ct' m m' m0 c c' c0 k' nc nl nt a b z h dp F p x j r l l0 y f D e : Nat} {lw : Bool} {V cl cl' : Nat → Nat} {U U' : Nat → Nat → Nat} {pl pl' : Nat → Nat} {s s' s'' t t' t'' : qS} {B : Nat → Nat} {O Q M W v w v1 v2 v3 v4 v5 a2 : Int32}
/-- behind a fault no side -/
theorem x_deadSide (h : dX s F p) (hl : l ≤ 5) (hD : 16 ≤ D) {a : Int32} : ∃ s', qev en D 135 [.ref 65, .int (nI l), .int a] s = some (none, s') ∧ bmF s s' ∧ dX s' F p := by
  by_cases q5 : l = 5
  · obtain ⟨e, rfl⟩ : ∃ e, D = e + 3 := ⟨D - 3, by omega⟩
    refine ⟨bmS s 2, le_X6_readSide en _ _ _ _ _ ?_, bmS_F, bmS_dead h⟩
    rw [if_pos (by rw [q5]; decide), x_deadOne h, bV_some]
  · obtain ⟨e, rfl⟩ : ∃ e, D = e + 2 * (4 - l) + 4 + 1 := ⟨D - 2 * (4 - l) - 5, by omega⟩
    obtain ⟨s', y1, y2, y3⟩ := x_deadLevel (en := en) (d := e) (a := a) (4 - l) l s (by omega) h
    refine ⟨s', le_X6_readSide en _ _ _ _ _ ?_, y2, y3⟩
    rw [if_neg (by rw [n_le (by decide) (by omega)]; omega), y1, bV_some]
theorem pil_push (h : pilF t k pl) (hk : k < 2000) (hK : K < 30) : pilF (uI (uI t 163 k (nI K)) 151 31 (nI (k + 1))) (k + 1) (at1 pl k K) := by
  refine ⟨by rw [rdU, if_pos ⟨rfl, rfl⟩], fun j hj => ?_⟩
  rw [uI_ne (by decide), rdU]
  by_cases g : j = k
  · rw [if_pos ⟨rfl, g⟩, g, at1_s]; exact ⟨rfl, hK⟩
  · rw [if_neg (fun z => g z.2), at1_n g]; exact h.2 j (by omega)
theorem rmF.pu : rmF lw c0 t (uI (uI t 163 k v) 151 31 w) := rmF.pq.tr (rmF.ui rfl) (Nat.le_refl c0)
theorem eS_push (hE : eS lw q bs u B n s t V U cl nc nl nt i ct m c k pl) (hq : plcQ lw q bs) (hk : k < 2000) (hK : K < 30) : eS lw q bs u B n s (uI (uI t 163 k (nI K)) 151 31 (nI (k + 1))) V U cl nc nl nt i ct m c (k + 1) (at1 pl k K) := by
  have hP := pil_push (pil_of hE) hk hK
  obtain ⟨hl, hn, h8, h9, ⟨x1, x2, x3⟩, ⟨y1, y2, y3⟩, hp⟩ := id hE
  refine eS_fr hE hq (m0 := 0) (c0 := 0) rxF.rf rmF.pu ⟨hl.1, mtL_fr hl.2 (fun j hj => ?_) ?_ rfl⟩ ⟨x1, ?_, x3⟩ ⟨y1, ?_, hP.1⟩ hP.2
  · rw [rdU, if_neg (by omega), uI_ne (by decide)]
  · rw [uI_ne (by decide), uI_ne (by decide)]
  · rw [rdU, if_neg (by omega), uI_ne (by decide)]; exact x2
  · rw [rdU, if_neg (by omega), uI_ne (by decide)]; exact y2
theorem rxF.lo (h : rxF lw q m' s s') (hm : m ≤ m') : rxF lw q m s s' := ⟨h.1, h.2.1, h.2.2.1, fun j hj => h.2.2.2.1 j (by omega), h.2.2.2.2⟩
theorem rmF.lo (h : rmF lw c' t t') (hc : c ≤ c') : rmF lw c t t' := ⟨h.1, h.2.1, fun j hj => h.2.2.1 j (by omega), h.2.2.2⟩
theorem nd1_eq {O' Q' M' W' : Int32} (h : nd1 lw u O Q M W) (e1 : O' = O) (e2 : Q' = Q) (e3 : M' = M) (e4 : W' = W) : nd1 lw u O' Q' M' W' := by rw [e1, e2, e3, e4]; exact h
theorem rxF_ct3 (hq : q = 7 ∨ q = 61) : (uI s 65 13 v).1 q 3 = s.1 q 3 := by rw [uI_ne (by omega)]
theorem lvS_mono (hS : lvS lw q bs u B n l0 b s t V U cl nc nl nt i ct m z h k pl) (hl : l ≤ l0) : lvS lw q bs u B n l b s t V U cl nc nl nt i ct m z h k pl := ⟨hS.1, hS.2.1, fun j a b => ⟨(hS.2.2.1 j a b).1, (hS.2.2.1 j a b).2.1, Nat.le_trans hl (hS.2.2.1 j a b).2.2⟩, hS.2.2.2⟩
/-- a sign put behind its right side -/
theorem lvS_sign (hq : plcQ lw q bs) (k1 : 4 ≤ K) (k2 : K ≤ 14) (k3 : rkM K = l + 1) (k4 : ndR 0 y 0 K 0) (hgw : gw (s.1 (q + 1)) (s.1 (q + 2)) m a) (hnd : ndZ lw u s t q bs m a) (fx : rxF lw q a s s') (fm : rmF lw (bs + a) t t') (hS : lvS lw q bs u B n (l + 2) b s' t' V U cl nc nl nt i ct a z h (k + 1) pl) (hpk : pl k = K) (hma : m ≤ a) (hbk : b ≤ k) : ∃ s6, qev en (e + 2) 76 [.ref q, .int (nI y), .int (0 : Int32)] s' = some (none, s6) ∧ lvS lw q bs u B n (l + 1) b s6 t' V U cl nc nl nt i ct m z (h + 1) k pl ∧ rxF lw q a s s6 := by
  obtain ⟨hE5, ⟨w1, w2⟩, w3, w4, w5, w6, w7⟩ := hS
  obtain ⟨u1, u2, u3, u4, ⟨u5, u6, u7⟩, ⟨u8, u9, u10⟩, u11⟩ := id hE5
  have hq' := hq.qq
  have hz5 : z + h < 400 := by clear hE5 u1 u2 u3 u4 fx fm hnd; omega
  obtain ⟨s6, b1, b2, b3, b4, b5⟩ := x_put4 (en := en) (d := e) (x := nI y) (y := 0) hq' u8 hz5
  have q1 : s6.1 1 = s'.1 1 := b2.1 1 (by rcases hq' with rfl | rfl <;> decide) (by rcases hq' with rfl | rfl <;> decide) (by rcases hq' with rfl | rfl <;> decide)
  have q4 : s6.1 4 = s'.1 4 := b2.1 4 (by rcases hq' with rfl | rfl <;> decide) (by rcases hq' with rfl | rfl <;> decide) (by rcases hq' with rfl | rfl <;> decide)
  have q5 : s6.1 5 = s'.1 5 := b2.1 5 (by rcases hq' with rfl | rfl <;> decide) (by rcases hq' with rfl | rfl <;> decide) (by rcases hq' with rfl | rfl <;> decide)
  have q65 : s6.1 65 = s'.1 65 := b2.1 65 (by rcases hq' with rfl | rfl <;> decide) (by rcases hq' with rfl | rfl <;> decide) (by rcases hq' with rfl | rfl <;> decide)
  obtain ⟨bn1, bn2, bn3, bn4⟩ := ndR_bin k4 k1 k2
  have fxh : rxF lw q a s s6 := fx.tr (rxF.pt b2 hq' (Nat.le_refl _)) (by clear hE5 u1 u2 u3 u4 fx fm hnd; omega)
  have hE6 : eS lw q bs u B n s6 t' V U cl nc nl nt i ct (z + (h + 1)) z (k + (h + 1)) pl := by
    refine eS_fr hE5 hq (m0 := 0) (c0 := 0) (rxF.pt b2 hq' (Nat.zero_le _)) rmF.rf ⟨cL_fr u1.1 (fun j _ => by rw [q1]) q4 q5 (by rw [b2.2.2.2]) (by rw [b2.2.2.2]) (by rw [b2.2.2.2]) (fun _ _ => by rw [q65]), u1.2⟩ ⟨by rw [q65]; exact u5, u6, u7⟩ ⟨b5, u9, by rw [show k + (h + 1) = k + 1 + h by omega]; exact u10⟩ (fun j hj => u11 j (by omega))
  refine ⟨s6, b1, ?_, fxh⟩
  clear hE5 u1 u2 u3 u4 u5 u6 u7 u8 u9 u10 u11 fx
  refine ⟨hE6, ⟨by omega, by omega⟩, fun j j1 j2 => ?_, fun i j j1 j2 j3 => ?_, fun j j1 j2 => ?_, fun o ho => ?_, ?_⟩
  · clear hE6
    by_cases gj : j = k
    · rw [gj, hpk]; exact ⟨k1, k2, by omega⟩
    · have := w3 j (by omega) (by omega)
      exact ⟨this.1, this.2.1, by omega⟩
  · clear hE6
    by_cases gi : i = k
    · rw [gi, hpk]
      have := w3 j (by omega) (by omega)
      omega
    · exact w4 i j (by omega) j2 (by omega)
  · clear hE6
    by_cases gj : j < a
    · obtain ⟨e3, e4⟩ := fxh.2.2.2.1 j gj
      obtain ⟨e7, e8⟩ := fm.2.2.1 (bs + j) (by omega)
      exact nd1_eq (hnd j j1 gj) e3 e4 e7 e8
    · obtain ⟨e1, e2⟩ := b2.2.2.1 j (by omega)
      exact nd1_eq (w5 j (by omega) j2) e1 e2 rfl rfl
  · clear hE6
    by_cases go : o = h
    · refine ⟨y, by rw [go]; exact b3, by rw [go]; exact b4, ?_⟩
      rw [show k + (h + 1) - 1 - o = k by omega, hpk]; exact k4
    · obtain ⟨kk, v1', v2', v3'⟩ := w6 o (by omega)
      obtain ⟨e1, e2⟩ := b2.2.2.1 (z + o) (by omega)
      refine ⟨kk, by rw [e1]; exact v1', by rw [e2]; exact v2', ?_⟩
      rw [show k + (h + 1) - 1 - o = k + 1 + h - 1 - o by omega]; exact v3'
  · have gA : gw (s6.1 (q + 1)) (s6.1 (q + 2)) m a := gw_ag hgw (fun j _ j2 => fxh.2.2.2.1 j j2)
    have gB : gw (s6.1 (q + 1)) (s6.1 (q + 2)) a (z + h) := gw_ag w7 (fun j _ j2 => b2.2.2.1 j (by clear hE6; omega))
    exact gw_bin gA gB (ndR_op k4) bn1 ⟨bn2, bn3⟩ b3
set_option maxHeartbeats 2000000 in
/-- a sign of the level, with its right side -/
theorem sign_al (hq : plcQ lw q bs) (hl4 : l ≤ 4) (hb : b ≤ 9) (hdp : 1 ≤ dp ∧ dp ≤ 10) (hF : 16 ≤ F) (hS : sideOK en d' v1 lw q bs u B n V nc nl nt b dp (l + 1) F) (hD : F ≤ e + 3) (hL : lvS lw q bs u B n (loL l) b s t V U cl nc nl nt i ct m z h k pl) (hto : topOK l k pl) (r1 : sgv (tkK B n i) (l + 1)) (hbk : b ≤ k) (hx : x < ct) :
    (∃ (s6 t5 : qS) (U5 : Nat → Nat → Nat) (cl5 : Nat → Nat) (i5 ct5 z5 h5 : Nat) (pl5 : Nat → Nat), (∀ r, (if ¬ nI l = (2 : Int32) then L_X6_readLevel_10 en (e + 3) (nI l) (nI dp) (nI (x + 1)) s6 else some (none, s6)) = some r → L_X6_readLevel_10 en (e + 3) (nI l) (nI dp) (nI x) s = some r) ∧ (∀ x, L_X12_readExp_20 en (d' + 8) v1 (nI b) (nI (dp - 1)) 0 0 t5 = some x → L_X12_readExp_20 en (d' + 8) v1 (nI b) (nI (dp - 1)) 0 0 t = some x) ∧ lvS lw q bs u B n (l + 1) b s6 t5 V U5 cl5 nc nl nt i5 ct5 m z5 (h5 + 1) k pl5 ∧ lvT (l + 1) k (h5 + 1) pl5 (tkK B n i5) ∧ rkM (pl5 k) = l + 1 ∧ (∀ j, j < k → pl5 j = pl j) ∧ ct + 2 ≤ ct5 ∧ (∀ w, cl w ≤ cl5 w) ∧ rxF lw q m s s6 ∧ rmF lw (bs + m) t t5) ∨
    (∃ s' t' : qS, L_X6_readLevel_10 en (e + 3) (nI l) (nI dp) (nI x) s = some (none, s') ∧ L_X12_readExp_20 en (d' + 8) v1 (nI b) (nI (dp - 1)) 0 0 t = some (some (.int v1), t') ∧ rdD s' t' ∧ mEnd s' q m ∧ rxF lw q m s s' ∧ rmF lw (bs + m) t t') := by
  obtain ⟨hE, ⟨hmz, hcnt⟩, -, -, -, -, hgw⟩ := id hL
  obtain ⟨hl, -, -, ⟨h7, -⟩, ⟨x1, x2, x3⟩, ⟨y1, -, -⟩, -⟩ := id hE
  have hq' := hq.qq
  have hlc : lc q = 4 := by rcases hq' with rfl | rfl <;> rfl
  obtain ⟨hi, c1, -, -⟩ := cL_at hl.1
  have hxl := tkK_lt hi
  have e133 : qev en (e + 3) 133 [.int (nI (tkK B n i))] s = some (some (.int (lvV (tkK B n i))), s) := x_levelOf (by clear hE hL hS; omega)
  have hlo : l + 1 ≤ loL l ∧ loL l ≤ 6 := by
    unfold loL
    clear hE hL hS
    split <;> omega
  have hcap : z + h ≤ ln (q + 1) := by
    clear hE hL hS
    rcases hq' with rfl | rfl
    · show z + h ≤ 500; omega
    · show z + h ≤ 400; omega
  obtain ⟨K, k1, k2, k3, k4, k5, k6, k7⟩ := m_sign (en := en) (d' := d' + 7) (v1 := v1) (v2 := nI b) (v3 := nI (dp - 1)) hl.2 r1 (by omega)
  have hlv : lvV (tkK B n i) = nI l := by rw [k5, show l + 1 - 1 = l by omega]
  have hy41 : tkK B n i ≠ 41 := fun g => by
    rw [g] at hlv
    have g2 : lvV 41 = -1 := rfl
    rw [g2] at hlv
    exact (n_1m (by omega)).mp hlv
  have hy0 : tkK B n i ≠ 0 := by omega
  have hg : ∀ s14 : qS, s14.2.2 65 7 = q + 1 → ∀ (s19 : qS) r, qev en (e + 3) 76 [.ref q, .int (nI (tkK B n i)), .int (0 : Int32)] s14 = some (none, s19) → (if ¬ nI l = (2 : Int32) then L_X6_readLevel_10 en (e + 3) (nI l) (nI dp) (nI (x + 1)) s19 else some (none, s19)) = some r → gd (s14.2.2 65 7 ≠ 0 ∧ lc (s14.2.2 65 7 - 1) = 4) (nm (s14.2.2 65 7 - 1) (fun q17 => bV (qev en (e + 3) 76 [.ref q17, .int (nI (tkK B n i)), .int (0 : Int32)] s14) (fun s19 => if ¬ nI l = (2 : Int32) then L_X6_readLevel_10 en (e + 3) (nI l) (nI dp) (nI (x + 1)) s19 else some (none, s19)))) = some r := fun s14 h14 s19 r h76 hr => by
    rw [h14, Nat.add_sub_cancel, gd_true ⟨Nat.succ_ne_zero q, hlc⟩, nm_eq, h76, bV_some]
    exact hr
  have preX : ∀ r, bI (qev en (e + 3) 136 [.ref 65] s) (fun w6 s7 => if ¬ w6 = (0 : Int32) then bV (qev en (e + 3) 167 [.ref 1] s7) (fun s11 => bV (qev en (e + 3) 135 [.ref 65, .int (nI (l + 1)), .int (nI dp)] s11) (fun s14 => gd (s14.2.2 65 7 ≠ 0 ∧ lc (s14.2.2 65 7 - 1) = 4) (nm (s14.2.2 65 7 - 1) (fun q17 => bV (qev en (e + 3) 76 [.ref q17, .int (nI (tkK B n i)), .int (0 : Int32)] s14) (fun s19 => if ¬ nI l = (2 : Int32) then L_X6_readLevel_10 en (e + 3) (nI l) (nI dp) (nI (x + 1)) s19 else some (none, s19)))))) else some (none, s7)) = some r → L_X6_readLevel_10 en (e + 3) (nI l) (nI dp) (nI x) s = some r := fun r hr => by
    refine le_X6_readLevel_10 en _ _ _ _ _ _ ?_
    rw [if_neg (by rw [n_le (by decide) (by omega)]; omega), c1, e133, bI_some, if_neg (not_not_intro hlv), c1, show nI l + (1 : Int32) = nI (l + 1) from n_ar, show nI x + (1 : Int32) = nI (x + 1) from n_ar]
    exact hr
  have htl : k = 0 ∨ pl (k - 1) = 22 ∨ rkM (pl (k - 1)) < loL l := by
    rcases hto with g | g | g
    · exact Or.inl g
    · exact Or.inr (Or.inl g)
    · exact Or.inr (Or.inr (by omega))
  obtain ⟨t1, p1, p2, p3, p4⟩ := pop_al (en := en) (d' := d' + 5) hL hq (Nat.le_refl _) (by omega) hlo.2 hb htl
  have p1' : qev en (d' + 8) 266 [.ref 151, .int (nI (if l + 1 = 3 then 4 else l + 1))] t = some (none, t1) := by
    have : (if l + 1 = 3 then 4 else l + 1) = loL l := by
      unfold loL
      by_cases g : l = 2
      · rw [if_pos g, if_pos (by omega)]
      · rw [if_neg g, if_neg (by omega)]
    rw [this]
    exact p1
  have hP1 := pil_of p2
  have hk9 : k < 1000 := by clear hE hL hS p2; omega
  have preM : ∀ y, bV (qev en (d' + 8) 263 [.ref 151] t1) (fun s3 => gd (p_inB (s3.1 151 31) 2000 = true) (nm (uI s3 163 ((s3.1 151 31).toNatClampNeg) (nI K)) (fun s6 => nm (uI s6 151 31 ((s6.1 151 31) + (1 : Int32))) (fun s7 => bV (qev en (d' + 8) 249 [.ref 151] s7) (fun s9 => L_X12_readExp_20 en (d' + 8) v1 (nI b) (nI (dp - 1)) (1 : Int32) 0 s9))))) = some y → L_X12_readExp_20 en (d' + 8) v1 (nI b) (nI (dp - 1)) 0 0 t = some y := fun y hy => by
    refine m_at347 (d' := d' + 7) hl.2 (Or.inl hy41) hb y (k7 y ?_)
    refine le_X12_readExp_389 en _ _ _ _ _ _ _ _ _ _ ?_
    rw [show d' + 7 + 1 = d' + 8 from rfl, p1', bV_some]
    refine m_push (d' := d' + 6) (k := k) (pl := pl) hP1.1 (by omega) ?_ (by omega) ⟨k1, k2⟩ y hy
    by_cases g0 : k = 0
    · exact Or.inl g0
    · by_cases g3 : l + 1 = 3
      · refine Or.inr (Or.inl ⟨(hP1.2 (k - 1) (by omega)).1, (hP1.2 (k - 1) (by omega)).2, ?_⟩)
        rcases hto with g | g | g
        · exact absurd g g0
        · exact Or.inl g
        · exact Or.inr (by omega)
      · exact Or.inr (Or.inr g3)
  have preP : ∀ (t2 : qS) y, pilF t2 k pl → bV (qev en (d' + 8) 249 [.ref 151] (uI (uI t2 163 k (nI K)) 151 31 (nI (k + 1)))) (fun s9 => L_X12_readExp_20 en (d' + 8) v1 (nI b) (nI (dp - 1)) (1 : Int32) 0 s9) = some y → gd (p_inB (t2.1 151 31) 2000 = true) (nm (uI t2 163 ((t2.1 151 31).toNatClampNeg) (nI K)) (fun s6 => nm (uI s6 151 31 ((s6.1 151 31) + (1 : Int32))) (fun s7 => bV (qev en (d' + 8) 249 [.ref 151] s7) (fun s9 => L_X12_readExp_20 en (d' + 8) v1 (nI b) (nI (dp - 1)) (1 : Int32) 0 s9)))) = some y := fun t2 y hP hy => by
    rw [hP.1, gd_in (by omega) (by decide), n_cl (by omega), nm_eq, show (uI t2 163 k (nI K)).1 151 31 = nI k from by rw [uI_ne (by decide)]; exact hP.1, show nI k + (1 : Int32) = nI (k + 1) from n_ar, nm_eq]
    exact hy
  have fm1 : rmF lw (bs + m) t t1 := rmF.em p4 (by omega)
  clear hE hL k7 p4
  rcases count_al (en := en) (d := e + 1) (d' := d' + 4) p2 hq with ⟨c4, c5, c6, c7⟩ | ⟨t2, c5, c6, ⟨F', p', c7, c8⟩, c9, c10⟩
  · have hE3 := eS_push c7 hq (K := K) (show k < 2000 by omega) (show K < 30 by omega)
    have hP2 : pilF (uI t1 151 28 (nI (ct + 1))) k pl := pil_of c7
    obtain ⟨s3, t4, a1, a2, a3, a4, a5⟩ := adv_al (en := en) (d := e + 2) (d' := d' + 5) hE3.1 hy0
    have fx3 : rxF true q (z + h) s s3 := (rxF.cu hq').tr (rxF.ad a3 hq') (Nat.le_refl _)
    have fmh : rmF lw (bs + (z + h)) t1 t4 := ((rmF.ui rfl).tr rmF.pu (Nat.le_refl _)).tr (rmF.mv a4) (Nat.le_refl _)
    have fm4 : rmF lw (bs + m) t t4 := fm1.tr fmh (Nat.add_le_add_left (by omega) bs)
    have hs3 : s3.2.2 65 7 = q + 1 := by rw [fx3.2.2.2.2.2.2]; exact h7
    have hP4 : pilF t4 (k + 1) (at1 pl k K) := pil_mv (pil_of hE3) a4
    have hmzh : m ≤ z + h := Nat.le_trans hmz (Nat.le_add_right z h)
    rcases a5 with a5 | a5
    · have hE4 := eS_ad hE3 hq a3 a4 a5
      have hto4 : topOK (l + 1) (k + 1) (at1 pl k K) := Or.inr (Or.inr (by rw [show k + 1 - 1 = k from Nat.add_sub_cancel k 1, at1_s]; exact Nat.le_of_eq k3))
      clear hE3 p2 c7 a5
      rcases hS (e + 3) s3 t4 U cl (i + 1) (ct + 1) (z + h) (k + 1) (at1 pl k K) hD hE4 hto4 (by clear hE4; omega) (by clear hE4; omega) with ⟨s5, t5, U5, cl5, i5, ct5, z5, h5, pl5, g1, g2, g3, g4, g5, g6, g7, g8, g9⟩ | ⟨s5, t5, g1, g2, g3, g4, g5, g6⟩
      · left
        have hpk : pl5 k = K := by rw [g5 k (Nat.lt_succ_self k), at1_s]
        have hpl : ∀ j, j < k → pl5 j = pl j := fun j hj => by rw [g5 j (Nat.lt_succ_of_lt hj), at1_n (Nat.ne_of_lt hj)]
        have hs5 : s5.2.2 65 7 = q + 1 := by rw [g8.2.2.2.2.2.2]; exact hs3
        obtain ⟨s6, b1, b2, b3⟩ := lvS_sign (en := en) (e := e + 1) hq k1 k2 k3 k4 hgw p3 (fx3.wk.tr g8 (Nat.le_refl _)) (fmh.tr g9 (Nat.le_refl _)) g3 hpk hmzh hbk
        refine ⟨s6, t5, U5, cl5, i5, ct5, z5, h5, pl5, fun r hr => preX r ?_, fun y hy => preM y ?_, b2, ?_, by rw [hpk]; exact k3, hpl, g6, g7, b3.lo hmzh, fm4.tr g9 (Nat.add_le_add_left hmzh bs)⟩
        · rw [c5, bI_some, if_pos (by decide), a1, bV_some, g1, bV_some]
          exact hg s5 hs5 s6 r b1 hr
        · rw [c6, bV_some]
          refine preP _ _ hP2 ?_
          rw [a2, bV_some]
          exact g2 y hy
        · obtain ⟨ry, y1', y2'⟩ := g4
          refine ⟨ry, y1', ?_⟩
          rcases y2' with y2' | ⟨y2', j, y3', y4', y5'⟩
          · exact Or.inl y2'
          · exact Or.inr ⟨y2', j, by clear hE4 g3 b2; omega, by clear hE4 g3 b2; omega, y5'⟩
      · -- a fault within the side
        right
        have hs5 : s5.2.2 65 7 = q + 1 := by rw [g5.2.2.2.2.2.2]; exact hs3
        obtain ⟨s6, b1, b2, b3, b4⟩ := putD_al (en := en) (d := e + 1) (v := nI (tkK B n i)) (w := 0) hq' g4 g3
        obtain ⟨F', p', b5, b6⟩ := id b4
        have e133' : qev en (e + 3) 133 [.int (s6.1 1 9)] s6 = some (some (.int (-1)), s6) := x_deadLevelOf (dX_kind b5)
        have fxd : rxF lw q m s s6 := ((fx3.wk.tr g5 (Nat.le_refl _)).tr b2.wk (Nat.le_refl _)).lo hmzh
        refine ⟨s6, t5, preX _ ?_, preM _ ?_, b4, ?_, fxd, fm4.tr g6 (Nat.add_le_add_left hmzh bs)⟩
        · rw [c5, bI_some, if_pos (by decide), a1, bV_some, g1, bV_some]
          refine hg s5 hs5 s6 _ b1 ?_
          by_cases g2' : l = 2
          · rw [if_neg (not_not_intro (by rw [g2']; rfl))]
          · rw [if_pos (by rw [n_eq (by decide) (by clear hE4; omega)]; exact g2')]
            refine le_X6_readLevel_10 en _ _ _ _ _ _ ?_
            rw [if_neg (by rw [n_le (by decide) (by clear hE4; omega)]; clear hE4; omega), e133', bI_some, if_pos (fun z => (n_1m (by clear hE4; omega)).mp z)]
        · rw [c6, bV_some]
          refine preP _ _ hP2 ?_
          rw [a2, bV_some]
          exact g2
        · obtain ⟨y, z1, z2, z3⟩ := b3
          exact ⟨y, z1, Nat.le_trans hmzh z2, z3⟩
    · -- a fault at the token behind the sign
      right
      clear hE3 p2 c7
      obtain ⟨F', p', b5, b6⟩ := id a5
      obtain ⟨s5, g1, g2, g3⟩ := x_deadSide (en := en) (D := e + 3) (a := nI dp) b5 (show l + 1 ≤ 5 by omega) (by omega)
      have hs5 : s5.2.2 65 7 = q + 1 := by rw [g2.2.2.2]; exact hs3
      have hm3 : mEnd s3 q (z + h) := mEnd_tk hq' ⟨z + h, by rw [rxF_ct3 hq']; exact y1, Nat.le_refl _, hcap⟩ (tnF.ad a3)
      obtain ⟨s6, b1, b2, b3, b4⟩ := putD_al (en := en) (d := e + 1) (v := nI (tkK B n i)) (w := 0) hq' (mEnd_tk hq' hm3 (tnF.bm g2)) ⟨F', p', g3, b6⟩
      obtain ⟨F2, p2', b7, b8⟩ := id b4
      have e133' : qev en (e + 3) 133 [.int (s6.1 1 9)] s6 = some (some (.int (-1)), s6) := x_deadLevelOf (dX_kind b7)
      have fxd : rxF lw q m s s6 := ((fx3.tr (rxF.bm g2 hq') (Nat.le_refl _)).tr b2 (Nat.le_refl _)).wk.lo hmzh
      obtain ⟨t6, u1, u2, u3⟩ := m_deadExp (en := en) (d := d' + 5) (v1 := v1) (v2 := nI b) (v3 := nI (dp - 1)) (v4 := 1) (v5 := 0) (show k + 1 ≤ 2000 by omega) b6 hP4.1 hP4.2
      refine ⟨s6, t6, preX _ ?_, preM _ ?_, ⟨F2, p2', b7, ?_⟩, ?_, fxd, fm4.tr (rmF.dd u3) (Nat.le_refl _)⟩
      · rw [c5, bI_some, if_pos (by decide), a1, bV_some, g1, bV_some]
        refine hg s5 hs5 s6 _ b1 ?_
        by_cases g2' : l = 2
        · rw [if_neg (not_not_intro (by rw [g2']; rfl))]
        · rw [if_pos (by rw [n_eq (by decide) (by omega)]; exact g2')]
          refine le_X6_readLevel_10 en _ _ _ _ _ _ ?_
          rw [if_neg (by rw [n_le (by decide) (by omega)]; omega), e133', bI_some, if_pos (fun z => (n_1m (by omega)).mp z)]
      · rw [c6, bV_some]
        refine preP _ _ hP2 ?_
        rw [a2, bV_some]
        exact u1
      · exact mtD_dd b8 u3
      · obtain ⟨y, z1, z2, z3⟩ := b3
        exact ⟨y, z1, Nat.le_trans hmzh z2, z3⟩
  · -- one sign too many
    right
    have hP3 := pil_push c10 (K := K) (show k < 2000 by omega) (show K < 30 by omega)
    have c8' : mtD (uI (uI t2 163 k (nI K)) 151 31 (nI (k + 1))) F' p' := mtD_fr c8 (by rw [rdU, if_neg (by decide), uI_ne (by decide)]) (by rw [rdU, if_neg (by decide), uI_ne (by decide)])
    obtain ⟨t6, u1, u2, u3⟩ := m_deadExp (en := en) (d := d' + 5) (v1 := v1) (v2 := nI b) (v3 := nI (dp - 1)) (v4 := 1) (v5 := 0) (show k + 1 ≤ 2000 by omega) c8' hP3.1 hP3.2
    refine ⟨bmS s 4, t6, preX _ ?_, preM _ ?_, ⟨F', p', c7, u2⟩, ?_, rxF.bm bmS_F hq', ((fm1.tr (c9 (bs + m)).wk (Nat.le_refl _)).tr rmF.pu (Nat.le_refl _)).tr (rmF.dd u3) (Nat.le_refl _)⟩
    · rw [c5, bI_some, if_neg (not_not_intro rfl)]
    · rw [c6, bV_some]
      refine preP _ _ c10 ?_
      rw [show d' + 8 = d' + 6 + 2 from rfl, m_nextD c8', bV_some]
      exact u1
    · exact mEnd_tk hq' ⟨z + h, y1, Nat.le_trans hmz (Nat.le_add_right z h), hcap⟩ (tnF.bm bmS_F)
/-- the signs of a level, one by one -/
theorem loop_al (hq : plcQ lw q bs) (hl4 : l ≤ 4) (hb : b ≤ 9) (hdp : 1 ≤ dp ∧ dp ≤ 10) (hF : 16 ≤ F) (hS : sideOK en d' v1 lw q bs u B n V nc nl nt b dp (l + 1) F) : ∀ (f D : Nat) (s t : qS) (U : Nat → Nat → Nat) (cl : Nat → Nat) (i ct z h k m x : Nat) (pl : Nat → Nat), 400 - ct < f → F ≤ D → lvS lw q bs u B n (loL l) b s t V U cl nc nl nt i ct m z h k pl → topOK l k pl → lvT (l + 1) k h pl (tkK B n i) → b ≤ k → x < ct → lvR en d' v1 lw q bs u B n l b dp (L_X6_readLevel_10 en D (nI l) (nI dp) (nI x) s) (L_X12_readExp_20 en (d' + 8) v1 (nI b) (nI (dp - 1)) 0 0 t) s t V cl nc nl nt ct m k pl := by
  intro f
  induction f with
  | zero => intro D s t U cl i ct z h k m x pl hf; exact absurd hf (Nat.not_lt_zero _)
  | succ f ih =>
    intro D s t U cl i ct z h k m x pl hf hD hL hto hT hbk hx
    obtain ⟨e, rfl⟩ : ∃ e, D = e + 3 := ⟨D - 3, by clear hL hS ih; omega⟩
    have hlo : l + 1 ≤ loL l := by
      unfold loL
      clear hL hS ih
      split <;> omega
    have x3 : ct ≤ 400 := hL.1.2.2.2.2.1.2.2
    obtain ⟨r, r1, r2⟩ := hT
    by_cases hr : r = l + 1
    · subst hr
      rcases sign_al (en := en) (d' := d') (v1 := v1) (dp := dp) hq hl4 hb hdp hF hS hD hL hto r1 hbk hx with ⟨s6, t5, U5, cl5, i5, ct5, z5, h5, pl5, hX, hTt, hN, hT5, hpk, hpl, hct, hcl, fx6, fm5⟩ | h
      · by_cases g2' : l = 2
        · left
          refine ⟨s6, t5, U5, cl5, i5, ct5, z5, h5 + 1, pl5, hX _ (by rw [if_neg (not_not_intro (by rw [g2']; rfl))]), hTt, hN, ?_, hpl, by omega, hcl, fx6, fm5⟩
          clear hN hL hS ih
          obtain ⟨ry, y1', y2'⟩ := hT5
          refine ⟨ry, y1', ?_⟩
          rcases y2' with y2' | y2'
          · by_cases gr : ry = 3
            · exact Or.inr ⟨gr, k, by omega, by omega, by omega⟩
            · exact Or.inl (by omega)
          · exact Or.inr y2'
        · have hloE : loL l = l + 1 := by unfold loL; rw [if_neg g2']
          have hN' : lvS lw q bs u B n (loL l) b s6 t5 V U5 cl5 nc nl nt i5 ct5 m z5 (h5 + 1) k pl5 := by rw [hloE]; exact hN
          have hto' : topOK l k pl5 := by
            by_cases g0 : k = 0
            · exact Or.inl g0
            · have : pl5 (k - 1) = pl (k - 1) := hpl (k - 1) (Nat.sub_lt (Nat.pos_of_ne_zero g0) (by decide))
              rcases hto with g | g | g
              · exact Or.inl g
              · exact Or.inr (Or.inl (this.trans g))
              · exact Or.inr (Or.inr (by rw [this]; exact g))
          have hx' : x + 1 < ct5 := by clear hN hN' hL hS ih hT5; omega
          have x5 : ct5 ≤ 400 := hN.1.2.2.2.2.1.2.2
          have hf' : 400 - ct5 < f := by clear hN hN' hL hS ih hT5; omega
          have h2 : ¬ nI l = (2 : Int32) := by rw [n_eq (by decide) (by clear hN hN' hL hS ih; omega)]; exact g2'
          rcases ih (e + 3) s6 t5 U5 cl5 i5 ct5 z5 (h5 + 1) k m (x + 1) pl5 hf' hD hN' hto' hT5 hbk hx' with ⟨s7, t7, U7, cl7, i7, ct7, z7, h7', pl7, r1', r2', r3', r4', r5', r6', r7', r8', r9'⟩ | ⟨s7, t7, r1', r2', r3', r4', r5', r6'⟩
          · exact Or.inl ⟨s7, t7, U7, cl7, i7, ct7, z7, h7', pl7, hX _ (by rw [if_pos h2]; exact r1'), fun x hx => hTt x (r2' x hx), r3', r4', fun j hj => (r5' j hj).trans (hpl j hj), Nat.le_trans (Nat.le_of_succ_le (Nat.le_of_succ_le hct)) r6', fun w => Nat.le_trans (hcl w) (r7' w), fx6.tr r8' (Nat.le_refl m), fm5.tr r9' (Nat.le_refl _)⟩
          · exact Or.inr ⟨s7, t7, hX _ (by rw [if_pos h2]; exact r1'), hTt _ r2', r3', r4', fx6.tr r5' (Nat.le_refl m), fm5.tr r6' (Nat.le_refl _)⟩
      · exact Or.inr h
    · -- none of the level
      left
      refine ⟨s, t, U, cl, i, ct, z, h, pl, ?_, fun _ hx => hx, lvS_mono hL hlo, ⟨r, r1, ?_⟩, fun _ _ => rfl, Nat.le_refl _, fun _ => Nat.le_refl _, rxF.rf, rmF.rf⟩
      · obtain ⟨hi, c1, -, -⟩ := cL_at hL.1.1.1
        have hxl := tkK_lt hi
        clear hL hS ih
        have e133 : qev en (e + 3) 133 [.int (nI (tkK B n i))] s = some (some (.int (lvV (tkK B n i))), s) := x_levelOf (by omega)
        refine le_X6_readLevel_10 en _ _ _ _ _ _ ?_
        have : ¬ lvV (tkK B n i) = nI l := by
          rcases r1 with ⟨g, -, -⟩ | ⟨K, -, -, -, -, g1, g2, g3, -⟩
          · rw [g]; exact fun z => (n_1m (by omega)).mp z
          · rw [g3, n_EQ (by omega) (by omega)]; omega
        rw [if_neg (by rw [n_le (by decide) (by omega)]; omega), c1, e133, bI_some, if_pos this]
      · clear hL hS ih
        rcases r2 with g | g
        · exact Or.inl (by omega)
        · exact Or.inr g
end EXV
