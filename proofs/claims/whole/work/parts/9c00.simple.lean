/-! THE READER: simple statements on both sides, with their lines. -/
/-- both stand in a program that is read: N lines, b blocks are open -/
abbrev prR (u : Nat) (B : Nat → Nat) (n : Nat) (s t : qS) (V : Nat → Nat) (U : Nat → Nat → Nat) (cl : Nat → Nat) (nc nl nt i m N : Nat) (th K : Nat → Nat) (bl : Nat → List Nat) (b : Nat) : Prop :=
  exS false 7 0 u B n s t V U cl nc nl nt i m ∧ (s.1 11 12 = nI N ∧ t.1 151 32 = nI N ∧ N ≤ 100) ∧ (∀ i, i < N → lnB s t nc nl nt m cl th i) ∧ lnG s t nt N K th bl ∧ t.1 151 56 = nI b ∧ ∀ j, j < 7 → s.2.1 66 j = Int64.ofNat (CWN.getD j 0)
/-- the block that is read: its key, what the class and the model call it -/
abbrev keyI (u N key : Nat) (th : Nat → Nat) (pa ow pt : Int32) : Prop := (key < 4 ∧ pa = -1 ∧ ow = -2 ∧ key = u) ∨ (∃ p c : Nat, p < N ∧ c < 2 ∧ key = 4 + 2 * p + c ∧ pa = nI p ∧ ow = nI p ∧ pt = nI c ∧ th p = u)
/-- its last line on both sides -/
abbrev lastI (lo : Option Nat) (la laM : Int32) : Prop := (∀ l, lo = some l → la = nI l ∧ laM = nI l) ∧ (lo = none → la = -1 ∧ laM = -2)
/-- the model's open blocks -/
abbrev topI (t : qS) (b : Nat) (ow pt laM : Int32) : Prop := t.1 184 b = ow ∧ t.1 185 b = pt ∧ t.1 186 b = laM
section SIM
variable {en : pN} {d d' k b i i' n N j x y r m m' u F p nc nl nt D m0 key un : Nat} {V cl cl' th th' K : Nat → Nat} {U U' : Nat → Nat → Nat} {s s' s'' s0 t t' t'' t0 t1 : qS} {B : Nat → Nat} {v w dp pa pt lv ow kk kk' la laM : Int32} {lo : Option Nat} {bl : Nat → List Nat}
theorem bV_bV {α : Type} {x : Option qR} {f : qS → Option qR} {g : qS → Option α} : bV (bV x f) g = bV x (fun s => bV (f s) g) := by
  cases x with
  | none => rfl
  | some r =>
    obtain ⟨o, s⟩ := r
    cases o with
    | none => rfl
    | some z => rfl
theorem lnB_th (h : lnB s t nc nl nt m cl th i) (e : th' i = th i) : lnB s t nc nl nt m cl th' i := by
  unfold lnB
  rw [e]
  exact h
/-- the class makes a line and links it -/
theorem x_new (hP : prR u B n s t V U cl nc nl nt i m N th K bl b) (hN : N < 100) (hkI : keyI u N key th pa ow pt) (hlo : lo = (bl key).getLast?) (hla : lastI lo la laM) : qev en (d + 1) 99 [.ref 11, .int (s.1 65 14), .int pa, .int pt, .int v] s = some (some (.int (nI N)), naS s N (nI u) pa pt v) ∧ qev en (d + 1) 100 [.ref 11, .int la, .int (nI N)] (naS s N (nI u) pa pt v) = some (none, naT s N key (nI u) pa pt v lo) := by
  obtain ⟨hE, ⟨h12, h32, -⟩, hln, hG, -, -⟩ := hP
  have hu := (hE.2.2.2.1.2 rfl).1
  refine ⟨by rw [hu]; exact x_addLine hN h12, x_link hN (fun l hl => ?_) (fun hl => (hla.2 hl).1) ?_⟩
  · refine ⟨(hla.1 l hl).1, ?_⟩
    rw [hlo] at hl
    have := (hG.2.1 key l (List.mem_of_getLast? hl)).1
    omega
  · have e : ∀ a, 18 ≤ a ∧ a < 36 → (naS s N (nI u) pa pt v).1 a N = naV (nI u) pa pt v a := fun a ha => by
      show (if a = 11 ∧ N = 12 then nI (N + 1) else if 18 ≤ a ∧ a < 36 ∧ N = N then naV (nI u) pa pt v a else s.1 a N) = _
      rw [if_neg (by omega), if_pos ⟨ha.1, ha.2, rfl⟩]
    rcases hkI with ⟨k1, k2, k3, k4⟩ | ⟨p, c, k1, k2, k3, k4, k5, k6, k7⟩
    · exact Or.inl ⟨k1, (e 29 (by decide)).trans k2, by rw [e 19 (by decide), k4]; rfl⟩
    · exact Or.inr ⟨p, c, by omega, k2, k3, (e 29 (by decide)).trans k4, (e 30 (by decide)).trans k6⟩
/-- the model makes a line and links it -/
theorem m_new (hP : prR u B n s t V U cl nc nl nt i m N th K bl (b + 1)) (hN : N < 100) (hb : b + 1 ≤ 12) (hkI : keyI u N key th pa ow pt) (hlo : lo = (bl key).getLast?) (hla : lastI lo la laM) (hT : topI t b ow pt laM) (f : rmF false m t t1) (h25 : t1.1 151 25 = nI m) : qev en (d + 1) 275 [.ref 151, .int kk] t1 = some (some (.int (nI N)), mnT t1 N u (b + 1) m key kk ow pt lo) := by
  obtain ⟨hE, ⟨h12, h32, -⟩, hln, hG, h56, -⟩ := hP
  have hnt := (hE.2.2.2.1.2 rfl).2
  have hb3 := hE.2.1.1
  have h18 : t.1 151 18 = nI nt := hE.2.1.2.2.1.2.2
  have g : ∀ a, a = 184 ∨ a = 185 ∨ a = 186 → t1.1 a = t.1 a := fun a ha => f.1 a (by omega) (Or.inl (by omega)) (by omega) (by omega) (by omega)
  refine m_newLine hN (by rw [f.2.1 32 rfl]; exact h32) (by rw [f.2.1 18 rfl, h18, hnt]) (by omega) (by rw [f.2.1 56 rfl]; exact h56) ⟨by omega, hb⟩ h25 ?_ ?_ (la := laM) ?_ (fun l hl => ?_) (fun hl => (hla.2 hl).2) ?_
  · rw [g 184 (by decide), Nat.add_sub_cancel]; exact hT.1
  · rw [g 185 (by decide), Nat.add_sub_cancel]; exact hT.2.1
  · rw [g 186 (by decide), Nat.add_sub_cancel]; exact hT.2.2
  · refine ⟨(hla.1 l hl).2, ?_⟩
    rw [hlo] at hl
    have := (hG.2.1 key l (List.mem_of_getLast? hl)).1
    omega
  · rcases hkI with ⟨k1, k2, k3, k4⟩ | ⟨p, c, k1, k2, k3, k4, k5, k6, k7⟩
    · exact Or.inl ⟨k1, k3, k4⟩
    · exact Or.inr ⟨p, c, by omega, k2, k3, k5, k6⟩
/-- the program with one more line -/
theorem prR_new (hP : prR u B n s t V U cl nc nl nt i m N th K bl (b + 1)) (hN : N < 100) (hkI : keyI u N key th pa ow pt) (hlo : lo = (bl key).getLast?) (hkV : kyV nt N key) (f1 : rmF false m t t1) (hE' : exS false 7 0 u B n s' t' V U' cl' nc nl nt i' m') (hm : m ≤ m') (hcl : ∀ w, cl w ≤ cl' w) (hln' : lnB s' t' nc nl nt m' cl' (at1 th N u) N) (f : stF N m (naT s N key (nI u) pa pt lv lo) s') (g : smF N m (mnT t1 N u (b + 1) m key kk ow pt lo) t') : prR u B n s' t' V U' cl' nc nl nt i' m' (N + 1) (at1 th N u) (at1 K N key) (at1 bl key (bl key ++ [N])) (b + 1) := by
  obtain ⟨hE, ⟨h12, h32, -⟩, hln, hG, h56, hW⟩ := hP
  have hnt := (hE.2.2.2.1.2 rfl).2
  have hb3 := hE.2.1.1
  have hm4 := hE'.2.2.2.2.1.2.2
  have hm0 := hE.2.2.2.2.1.2.2
  refine ⟨hE', ⟨?_, ?_, by omega⟩, fun i hi => ?_, ?_, ?_, fun j hj => ?_⟩
  · rw [f.1 11 (by decide) (by decide) (by decide) (by decide) (by decide) (by decide) (by decide) (Or.inl (by decide)), naT_11, if_pos rfl]
  · rw [g.2.2.1 32 rfl, mnT_151, if_pos rfl]
  · by_cases z : i = N
    · rw [z]; exact hln'
    · have h0 := hln i (by omega)
      have h1 : lnB (naT s N key (nI u) pa pt lv lo) t1 nc nl nt m cl th i := lnB_naT (lnB_fr (N := i + 1) h0 (Nat.ne_of_lt (Nat.lt_succ_self i)) (Nat.le_refl m) hm0 (fun _ => Nat.le_refl _) stF.rf (smF.rm f1)) z
      exact lnB_th (lnB_fr (lnB_mnT h1 z) z hm hm4 hcl f g) (at1_n z)
  · have h1 : lnG s t1 nt N K th bl := lnG_fr hG (m := m) (z := N) stF.rf (Nat.le_refl N) (smF.rm f1)
    have h2 := G_add (b := b + 1) (m := m) (kk := kk) (v := lv) h1 hN (show u < nt by omega) hb3.2.2 hkV hlo hkI
    refine lnG_fr2 h2 f g ?_
    obtain ⟨k, -, ⟨-, e1, -⟩, -⟩ := hln'
    rw [e1, at1_s, show (uI (naS s N (nI u) pa pt lv) (lkA 16 28 31 32 key lo).1 (lkA 16 28 31 32 key lo).2 (nI N)).1 19 N = (naT s N key (nI u) pa pt lv lo).1 19 N from rfl, naT_r (by decide) (by decide), if_pos rfl]
    rfl
  · rw [g.2.2.1 56 rfl, mnT_151, if_neg (by decide), f1.2.1 56 rfl]; exact h56
  · rw [f.2.2.2.2.2.2.2.1 66 (by decide) (by decide) (by decide)]; exact hW j hj
end SIM
