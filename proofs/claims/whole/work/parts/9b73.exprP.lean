/-! THE READER: an expression on both sides: numbers and locals. -/
section EXP
variable {en : pN} {d d' k K q bs u n i i' ct ct' m m' m0 c c' c0 k' nc nl nt a b z dp F p : Nat} {lw : Bool} {V cl cl' : Nat → Nat} {U U' : Nat → Nat → Nat} {pl pl' : Nat → Nat} {s s' s'' t t' t'' : qS} {B : Nat → Nat} {O Q M W v w v1 v2 v3 v4 v5 a2 : Int32}
theorem i64_32 {a : Nat} : (Int64.ofNat a).toInt32 = nI a := by
  apply Int32.toBitVec_inj.mp
  rw [toI32_bv]
  show (BitVec.ofNat 64 a).setWidth 32 = BitVec.ofNat 32 a
  apply BitVec.eq_of_toNat_eq
  rw [BitVec.toNat_setWidth, BitVec.toNat_ofNat, BitVec.toNat_ofNat]
  omega
theorem eS_lc (h : eS lw q bs u B n s t V U cl nc nl nt i ct m c k pl) (hq : plcQ lw q bs) (f1 : ∀ a, a ≠ 14 → s'.1 a = s.1 a) (f2 : ∀ a, a ≠ 13 → s'.2.1 a = s.2.1 a) (f3 : s'.2.2 = s.2.2) (g1 : ∀ a, a ≠ 159 → t'.1 a = t.1 a) (g2 : ∀ a, a ≠ 160 → t'.2.1 a = t.2.1 a) (hn' : nmR s' t' V U' cl' nc nl nt) : eS lw q bs u B n s' t' V U' cl' nc nl nt i ct m c k pl := by
  obtain ⟨⟨hc, hm⟩, -, ⟨h3, h4⟩, ⟨h5, h6⟩, h7, h8, h9⟩ := h
  have hq' := hq.qq
  have e65 := f1 65 (by decide)
  have e151 := g1 151 (by decide)
  have eq : s'.1 q = s.1 q := f1 q (by omega)
  exact ⟨⟨cL_fr hc (fun j _ => by rw [f1 1 (by decide)]) (f1 4 (by decide)) (f1 5 (by decide)) (by rw [f2 1 (by decide)]) (f2 3 (by decide)) (f2 6 (by decide)) (fun _ _ => by rw [e65]), mtL_fr hm (fun j _ => by rw [e151]) (g1 152 (by decide)) (by rw [g2 151 (by decide)])⟩, hn', ⟨by rw [e65]; exact h3, by rw [e151]; exact h4⟩, ⟨by rw [f3]; exact h5, by rw [e65]; exact h6⟩, by rw [e65, e151]; exact h7, by rw [eq, e151]; exact h8, by rw [g1 163 (by decide)]; exact h9⟩
/-- a number -/
theorem opd_num (hE : eS lw q bs u B n s t V U cl nc nl nt i ct m m k pl) (hq : plcQ lw q bs) (hm : m < 400) (hx : tkK B n i = 3) : ∃ s' t', qev en (d + 3) 140 [.ref 65, .int (nI (tkK B n i)), .int a2] s = some (none, s') ∧ tkoB en (d' + 3) t = some (none, t') ∧ opR lw q bs u B n s t s' t' V cl nc nl nt ct m k pl := by
  obtain ⟨hl, hn, h8, ⟨h7, -⟩, ⟨x1, x2, x3⟩, ⟨y1, y2, y3⟩, hp⟩ := id hE
  obtain ⟨hi, c1, c2, c3⟩ := cL_at hl.1
  obtain ⟨⟨mX, mn, -⟩, m7, m4, mk1, m2, m3, m5, m6⟩ := id hl.2
  have hq' := hq.qq
  have hlc : lc q = 4 := by rcases hq' with rfl | rfl <;> rfl
  obtain ⟨s1, t1, e1, e2, e3, e4, e5, ⟨e6, e7⟩, e8, e9⟩ := put_al (en := en) (d := d) (d' := d' + 1) (O := 1) (Q := nI (tkN B n i).2.2.1) (M := 0) (W := nI (tkN B n i).2.2.1) hE hq hm
  obtain ⟨s2, t2, g1, g2, g3, g4, g5⟩ := adv_al (en := en) (d := d + 1) (d' := d') e3.1 (by omega)
  have fx : rxF true q m s s2 := e4.tr (rxF.ad g3 hq') (Nat.le_refl m)
  have fm : rmF true (bs + m) t t2 := e5.tr (rmF.mv g4) (Nat.le_refl _)
  refine ⟨s2, t2, le_X6_readNode en _ _ _ _ _ ?_, ?_, fx.wk, fm.wk, ?_⟩
  · rw [hx, if_neg (show ¬ ¬ nI 3 = (3 : Int32) from not_not_intro rfl), h7, Nat.add_sub_cancel, gd_true ⟨by omega, hlc⟩, nm_eq, c3 (by omega), i64_32, e1, bV_some, g1, bV_some]
  · show (if ¬ (t.1 151 3) = (2 : Int32) then _ else _) = _
    rw [m3, if_neg (not_not_intro (by rw [hx]; rfl)), m6 hx, e2, bV_some, g2, bV_some]
  · rcases g5 with g5 | g5
    · have r1 : s2.1 (q + 1) m = 1 := by rw [g3.1 (q + 1) (by omega)]; exact e6
      have r2 : s2.1 (q + 2) m = nI (tkN B n i).2.2.1 := by rw [g3.1 (q + 2) (by omega)]; exact e7
      refine Or.inl ⟨U, cl, i + 1, eS_ad e3 hq g3 g4 g5, ⟨1, 0, by decide, r1, by rw [g4.1 161 (by decide)]; exact e8, Or.inl ⟨rfl, rfl, by rw [g4.1 162 (by decide), e9, r2]⟩, fun _ => by omega⟩, gw_one (k := 1) (by decide) rfl r1 (fun z => by omega) (fun z => by omega), fun _ => Nat.le_refl _⟩
    · refine Or.inr ⟨g5, ⟨m + 1, ?_, by omega, ?_⟩, pil_mv (pil_of e3) g4⟩
      · rw [g3.1 q (by omega)]; exact e3.2.2.2.2.2.1.1
      · rcases hq' with rfl | rfl
        · show m + 1 ≤ 500; omega
        · show m + 1 ≤ 400; omega
/-- a local -/
theorem opd_loc (hE : eS lw q bs u B n s t V U cl nc nl nt i ct m m k pl) (hq : plcQ lw q bs) (hm : m < 400) (hx : tkK B n i = 2) (hw : lw = false) : ∃ s' t', qev en (d + 4) 140 [.ref 65, .int (nI (tkK B n i)), .int a2] s = some (none, s') ∧ tkoB en (d' + 3) t = some (none, t') ∧ opR lw q bs u B n s t s' t' V cl nc nl nt ct m k pl := by
  obtain ⟨hl, hn, ⟨h8, h29⟩, ⟨h7, hu⟩, ⟨x1, x2, x3⟩, ⟨y1, y2, y3⟩, hp⟩ := id hE
  obtain ⟨hu, hnt⟩ := hu hw
  obtain ⟨hi, c1, c2, c3⟩ := cL_at hl.1
  obtain ⟨⟨mX, mn, -⟩, m7, m4, mk1, m2, m3, m5, m6⟩ := id hl.2
  have hq' := hq.qq
  have hlc : lc q = 4 := by rcases hq' with rfl | rfl <;> rfl
  have h8' : s.1 65 8 = 0 := by rw [h8, hw]; rfl
  have h29' : t.1 151 29 = 0 := by rw [h29, hw]; rfl
  have hu4 : u < 4 := by have := hn.1; omega
  have preX : ∀ r, L_X6_readNode_99 en (d + 3) (nI 2) s = some r → qev en (d + 4) 140 [.ref 65, .int (nI (tkK B n i)), .int a2] s = some r := by
    intro r hr
    refine le_X6_readNode en _ _ _ _ _ ?_
    rw [hx, if_pos (by decide), if_neg (by decide), if_pos (by decide), if_pos h8']
    exact hr
  have preM : ∀ r, bI (qev en (d' + 3) 261 [.ref 151] t) (fun w10 s11 => L_X12_takeOperand_57 en (d' + 3) w10 s11) = some r → tkoB en (d' + 3) t = some r := by
    intro r hr
    show (if ¬ (t.1 151 3) = (2 : Int32) then _ else _) = _
    rw [m3, if_pos (by rw [hx]; decide), if_pos h29', m_goodL m7, bI_some, if_neg (by decide)]
    exact hr
  have lwf : lw = false := hw
  rcases local_alike (en := en) (d := d + 1) (d' := d') hn hl.1 hl.2 hx hu hnt with ⟨j, s1, t1, U', cl', e128, e261, hj, hn', ⟨f1, f2, f3⟩, ⟨k1, k2, k3⟩, hmo, hju⟩ | ⟨t1, e128, e261, hD, hmv⟩
  · have hE1 := eS_lc hE hq f1 f2 f3 k1 k2 hn'
    obtain ⟨s2, t2, e1, e2, e3, e4, e5, ⟨e6, e7⟩, e8, e9⟩ := put_al (en := en) (d := d + 1) (d' := d' + 1) (O := 2) (Q := nI (16 + u * 6 + j)) (M := 1) (W := nI j) hE1 hq hm
    obtain ⟨s3, t3, g1, g2, g3, g4, g5⟩ := adv_al (en := en) (d := d + 2) (d' := d') e3.1 (by omega)
    have fx1 : rxF true q m s1 s3 := e4.tr (rxF.ad g3 hq') (Nat.le_refl m)
    have fm1 : rmF true (bs + m) t1 t3 := e5.tr (rmF.mv g4) (Nat.le_refl _)
    have fx : rxF lw q m s s3 := by
      rw [hw]
      exact (rxF.lc f1 f2 f3 hq').tr fx1.wk (Nat.le_refl m)
    have fm : rmF lw (bs + m) t t3 := by
      rw [hw]
      exact (rmF.lc k1 k2 k3).tr fm1.wk (Nat.le_refl _)
    refine ⟨s3, t3, preX _ ?_, preM _ ?_, fx, fm, ?_⟩
    · refine le_X6_readNode_99 en _ _ _ _ ?_
      have e14 : s1.1 65 14 = nI u := by rw [f1 65 (by decide)]; exact hu
      have e7' : s1.2.2 65 7 = q + 1 := by rw [f3]; exact h7
      have e32 : qev en (d + 3) 32 [.int (nI u), .int (nI j)] s1 = some (some (.int (nI (16 + u * 6 + j))), s1) := by
        refine le_X3_localSlot en _ _ _ _ _ ?_
        rw [show nI u * (6 : Int32) = nI (u * 6) from n_mr, show (16 : Int32) + nI (u * 6) = nI (16 + u * 6) from n_al, nI_add]
      rw [if_pos h8', e128, bI_some, if_neg (by rw [n_gt (by decide) (by omega)]; omega), e7', Nat.add_sub_cancel, gd_true ⟨by omega, hlc⟩, nm_eq, e14, e32, bI_some, e1, bV_some, g1, bV_some]
    · rw [e261, bI_some]
      refine le_X12_takeOperand_57 en _ _ _ _ ?_
      rw [e2, bV_some, g2, bV_some]
    · rcases g5 with g5 | g5
      · have r1 : s3.1 (q + 1) m = 2 := by rw [g3.1 (q + 1) (by omega)]; exact e6
        have r2 : s3.1 (q + 2) m = nI (16 + u * 6 + j) := by rw [g3.1 (q + 2) (by omega)]; exact e7
        refine Or.inl ⟨U', cl', i + 1, eS_ad e3 hq g3 g4 g5, ⟨2, 1, by decide, r1, by rw [g4.1 161 (by decide)]; exact e8, Or.inr (Or.inl ⟨rfl, rfl, j, hj, r2, by rw [g4.1 162 (by decide), e9]⟩), fun _ => by omega⟩, gw_one (k := 2) (by decide) rfl r1 (fun _ => ⟨_, r2, by omega⟩) (fun z => by omega), hmo⟩
      · refine Or.inr ⟨g5, ⟨m + 1, ?_, by omega, ?_⟩, pil_mv (pil_of e3) g4⟩
        · rw [g3.1 q (by omega)]; exact e3.2.2.2.2.2.1.1
        · rcases hq' with rfl | rfl
          · show m + 1 ≤ 500; omega
          · show m + 1 ≤ 400; omega
  · obtain ⟨-, -, -, w3, -⟩ := fault_al (en := en) (d' := d') (k := 4) hl ⟨by decide, by decide⟩
    refine ⟨bmS s 4, t1, preX _ ?_, preM _ ?_, rxF.bm bmS_F hq', (rmF.mv hmv), Or.inr ⟨⟨4, _, w3, hD⟩, ⟨m, ?_, Nat.le_refl m, ?_⟩, pil_mv (pil_of hE) hmv⟩⟩
    · refine le_X6_readNode_99 en _ _ _ _ ?_
      rw [if_pos h8', e128, bI_some, if_pos (by decide)]
    · rw [e261, bI_some]
      refine le_X12_takeOperand_57 en _ _ _ _ ?_
      rw [m_emitD hD, bV_some, m_nextD hD, bV_some]
    · have : (bmS s 4).1 q = s.1 q := bmS_F.1 q (by omega) (by omega)
      rw [this]; exact y1
    · rcases hq' with rfl | rfl
      · show m ≤ 500; omega
      · show m ≤ 400; omega
end EXP
