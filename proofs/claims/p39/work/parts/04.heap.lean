/-! THE SMALL MACHINE'S CELLS, and what of the machine's heap they are. -/
/-- the words that every method's contract carries: those of the tables that stay -/
def gT : List Cond := lw_tbl.filter goodWord
theorem gT_of {w : Cond} (h : w ∈ lw_tbl) (hg : goodWord w = true) : w ∈ gT := List.mem_filter.mpr ⟨h, hg⟩
theorem gT_place {w : Cond} {i : Nat} (h : lw_tbl[i]? = some w) (hg : goodWord w = true) : w ∈ gT := gT_of (List.mem_of_getElem? h) hg
theorem gT_good {ws : List Cond} (h : ∀ w ∈ ws, w ∈ gT) : GoodIn gT ws := fun w hw => ⟨h w hw, good_of_word (List.mem_filter.mp (h w hw)).2⟩
theorem gT_lay (C : String) (T : u_T) (k : Nat) : goodWord (u_lay C T k) = true := by
  unfold u_lay
  split <;> rfl
theorem gT_ws {C : String} {T : u_T} {N : Nat} (h : ∀ w ∈ u_ws C T N, w ∈ lw_tbl) : ∀ w ∈ u_ws C T N, w ∈ gT := by
  intro w hw
  refine gT_of (h w hw) ?_
  obtain ⟨k, -, rfl⟩ := List.mem_map.mp hw
  exact gT_lay C T k
/-- the types of the fields of class ci -/
def clTy (ci : Nat) : Nat → FieldType := match ci with
  | 0 => tyX0
  | 1 => tyX1
  | 2 => tyX2
  | 3 => tyX3
  | 4 => tyX4
  | 5 => tyX5
  | 6 => tyX6
  | 7 => tyX7
  | 8 => tyX8
  | 9 => tyX9
  | 10 => tyX10
  | _ => tyX11
theorem cl_all {P : Nat → vw_C → Prop} (h0 : P 0 (RX0, TX0, 7)) (h1 : P 1 (RX1, TX1, 11)) (h2 : P 2 (RX2, TX2, 14)) (h3 : P 3 (RX3, TX3, 13)) (h4 : P 4 (RX4, TX4, 5)) (h5 : P 5 (RX5, TX5, 14)) (h6 : P 6 (RX6, TX6, 15)) (h7 : P 7 (RX7, TX7, 6)) (h8 : P 8 (RX8, TX8, 5)) (h9 : P 9 (RX9, TX9, 12)) (h10 : P 10 (RX10, TX10, 20)) (h11 : P 11 (RX11, TX11, 15)) :
    ∀ (ci : Nat) (q : vw_C), vwCl[ci]? = some q → P ci q := by
  intro ci q h
  match ci, h with
  | 0, h => cases h; exact h0
  | 1, h => cases h; exact h1
  | 2, h => cases h; exact h2
  | 3, h => cases h; exact h3
  | 4, h => cases h; exact h4
  | 5, h => cases h; exact h5
  | 6, h => cases h; exact h6
  | 7, h => cases h; exact h7
  | 8, h => cases h; exact h8
  | 9, h => cases h; exact h9
  | 10, h => cases h; exact h10
  | 11, h => cases h; exact h11
  | n + 12, h => simp [vwCl] at h
theorem cl_in : ∀ (ci : Nat) (q : vw_C), vwCl[ci]? = some q → ∀ w ∈ u_ws q.1 q.2.1 q.2.2, w ∈ gT :=
  cl_all (gT_ws inX0) (gT_ws inX1) (gT_ws inX2) (gT_ws inX3) (gT_ws inX4) (gT_ws inX5) (gT_ws inX6) (gT_ws inX7) (gT_ws inX8) (gT_ws inX9) (gT_ws inX10) (gT_ws inX11)
theorem cl_ty : ∀ (ci : Nat) (q : vw_C), vwCl[ci]? = some q → ∀ k, k < q.2.2 → parseFieldDescriptor (q.2.1 k).2.2.1 = some (clTy ci k) :=
  cl_all tyX0_ok tyX1_ok tyX2_ok tyX3_ok tyX4_ok tyX5_ok tyX6_ok tyX7_ok tyX8_ok tyX9_ok tyX10_ok tyX11_ok
theorem cl_nm : ∀ (ci : Nat) (q : vw_C), vwCl[ci]? = some q → ∀ a, a < q.2.2 → ∀ b, b < q.2.2 → a ≠ b → (q.2.1 a).2.1 ≠ (q.2.1 b).2.1 :=
  cl_all nmX0 nmX1 nmX2 nmX3 nmX4 nmX5 nmX6 nmX7 nmX8 nmX9 nmX10 nmX11
theorem cl_nf : ∀ (ci : Nat) (q : vw_C), vwCl[ci]? = some q → ∀ k, k < q.2.2 → clTy ci k ≠ .float :=
  cl_all (by decide +kernel) (by decide +kernel) (by decide +kernel) (by decide +kernel) (by decide +kernel) (by decide +kernel) (by decide +kernel) (by decide +kernel) (by decide +kernel) (by decide +kernel) (by decide +kernel) (by decide +kernel)
/-- the arrays' types by their numbers -/
def aTy (t : Nat) : FieldType := match t with
  | 0 => .int
  | 1 => .long
  | 2 => .byte
  | 3 => .byte
  | _ => .array .int
def tysL (cA : Nat → ClassId) : List (ClassId × FieldType) := [(cA 0, .int), (cA 1, .long), (cA 2, .byte), (cA 3, .byte), (cA 4, .array .int)]
def rA (b : Nat) (a : vp_A) : vp_A := match a with
  | (n, .inr (.inr (.inr (.inr f)))) => (n, .inr (.inr (.inr (.inr (fun j => (f j).map (fun q => b + q))))))
  | a => a
def rE (b : Nat) (o : Nat → Nat) (cA : Nat → ClassId) (x : pE) : va_E := match x with
  | .inl (t, a) => .inl (cA t, rA b a)
  | .inr (ci, fs) => .inr (ci, rS b o fs)
/-- the heap from b on is the small machine's -/
def sRep (D : va_G) (cA : Nat → ClassId) (b : Nat) (o : Nat → Nat) (h : pH) (H : Heap) : Prop := H.size = b + h.1 ∧ ∀ j : Nat, j < h.1 → va_at D vwCl (b + j, rE b o cA (h.2.2 j)) H
theorem va_one {D : va_G} {cl : List vw_C} {q : Nat × va_E} {H : Heap} (h : va_at D cl q H) : va_P D cl [q] H := by
  intro k x hx
  match k, hx with
  | 0, hx => cases hx; exact h
  | n + 1, hx => simp at hx
theorem sRep.set {D : va_G} {cA : Nat → ClassId} {b : Nat} {o : Nat → Nat} {h : pH} {H H1 : Heap} (hR : sRep D cA b o h H) {a : Nat} {e : pE} (z : H1.size = H.size) (oq : ∀ q : Nat, q ≠ b + a → H1[q]? = H[q]?) (he : va_at D vwCl (b + a, rE b o cA e) H1) : sRep D cA b o (h.1, h.2.1, p_up h.2.2 a e) H1 := by
  refine ⟨z.trans hR.1, fun j hj => ?_⟩
  show va_at D vwCl (b + j, rE b o cA (p_up h.2.2 a e j)) H1
  unfold p_up
  by_cases hq : j = a
  · rw [if_pos hq, hq]
    exact he
  · rw [if_neg hq]
    exact (hR.2 j hj).kept (oq (b + j) (by omega))
theorem sRep.push {D : va_G} {cA : Nat → ClassId} {b : Nat} {o : Nat → Nat} {h : pH} {H H1 : Heap} (hR : sRep D cA b o h H) {e : pE} {n : Nat} (z : H1.size = H.size + 1) (oq : ∀ q : Nat, q < H.size → H1[q]? = H[q]?) (he : va_at D vwCl (b + h.1, rE b o cA e) H1) : sRep D cA b o (h.1 + 1, n, p_up h.2.2 h.1 e) H1 := by
  refine ⟨by rw [z, hR.1]; rfl, fun j hj => ?_⟩
  show va_at D vwCl (b + j, rE b o cA (p_up h.2.2 h.1 e j)) H1
  have hj : j < h.1 + 1 := hj
  unfold p_up
  by_cases hq : j = h.1
  · rw [if_pos hq, hq]
    exact he
  · rw [if_neg hq]
    have hR1 := hR.1
    exact (hR.2 j (by omega)).kept (oq (b + j) (by omega))
/-- what a field or an array of a small type takes as it is -/
def p_fit (ty : FieldType) (v : Value) : Bool := match ty, v with
  | .int, .int _ => true
  | .long, .long _ => true
  | .boolean, .int x => decide (x = 0) || decide (x = 1)
  | .object _, .ref _ => true
  | .object _, .retAddr _ => true
  | .array _, .ref _ => true
  | .array _, .retAddr _ => true
  | _, _ => false
theorem p_fit_spec {ty : FieldType} {v : Value} {b : Nat} {o : Nat → Nat} (h : p_fit ty v = true) : narrow ty (rV b o v) = rV b o v ∧ fits ty (rV b o v) = true := by
  unfold p_fit at h
  split at h
  · exact ⟨rfl, rfl⟩
  · exact ⟨rfl, rfl⟩
  · rename_i x
    rcases (Bool.or_eq_true _ _).mp h with h | h
    · have h := of_decide_eq_true h
      subst h
      exact ⟨rfl, rfl⟩
    · have h := of_decide_eq_true h
      subst h
      exact ⟨rfl, rfl⟩
  · exact ⟨rfl, rfl⟩
  · exact ⟨rfl, rfl⟩
  · exact ⟨rfl, rfl⟩
  · exact ⟨rfl, rfl⟩
  · cases h
section SIMH
variable {p : Program} {l : Launch} {e : Env} {R : Room} {s : State} {m : MethodId} {args : Array Value} {below : List Frame} {meth : Method} {c : Code} {H : Heap} {locs : List Loc} {cells slots : Nat} {Q : State → Prop} {cc : ByteArray}
variable {pc : Nat} {ls : Array Slot} {rest : List Value} {D : va_G} {cA : Nat → ClassId} {b : Nat} {o : Nat → Nat} {h : pH} {H0 : Heap} {own : String} {index : Nat} {a : Nat}
theorem s_get (hx : p.tables.exec = Jvm.exec) (hb : c.code = cc) (hts : ∀ w ∈ gT, w.before args s = true) (hown : s.vm.findClass own = some m.cls) (hK : va_K D vwCl (tysL cA) s) (hR : sRep D cA b o h H) {ci k : Nat} {r : vw_C} {fs : List Value} {v : Value} (ha : a < h.1) (he : h.2.2 a = .inr (ci, fs)) (hc : vwCl[ci]? = some r) (hk : k < r.2.2) (hlink : (Cond.fieldLink own index (r.2.1 k).1 (r.2.1 k).2.1 (r.2.1 k).2.2.1).before args s = true) (hv : fs[k]? = some v) (hdg : decode cc pc = .ok (.getfield index, 3))
    (kk : W p l e R s m args below meth c H locs cells slots Q (F0 m (pc + 3) ls (rV b o v :: rest))) : W p l e R s m args below meth c H locs cells slots Q (F0 m pc ls (.ref (b + a) :: rest)) := by
  have hat := hR.2 a ha
  rw [he] at hat
  have hP := va_one hat
  obtain ⟨C, T, N⟩ := r
  refine va_get (D := D) (cl := vwCl) (tys := tysL cA) (C := C) (T := T) (N := N) (ci := ci) (v := rV b o v) hx hb hts (cl_in ci _ hc) hown hK hP 0 rfl hc k hk hlink (fun _ z => z) ?_ hdg kk
  show (rS b o fs)[k]? = _
  unfold rS
  rw [List.getElem?_map, hv]
  rfl
theorem s_put (hx : p.tables.exec = Jvm.exec) (hb : c.code = cc) (hts : ∀ w ∈ gT, w.before args s = true) (hown : s.vm.findClass own = some m.cls) (hK : va_K D vwCl (tysL cA) s) (hR : sRep D cA b o h H) (hS0 : va_S (fun q => b ≤ q) H0 H locs) {ci k : Nat} {r : vw_C} {fs : List Value} {v : Value} (ha : a < h.1) (he : h.2.2 a = .inr (ci, fs)) (hc : vwCl[ci]? = some r) (hk : k < r.2.2) (hlink : (Cond.fieldLink own index (r.2.1 k).1 (r.2.1 k).2.1 (r.2.1 k).2.2.1).before args s = true) (hl : k < fs.length) (hfit : p_fit (clTy ci k) v = true)
    (hfin : (r.2.1 k).2.2.2 = false ∨ ((r.2.1 k).2.2.2 = true ∧ meth.name = "<init>" ∧ (r.2.1 k).1 = own)) (hdg : decode cc pc = .ok (.putfield index, 3))
    (kk : ∀ (H1 : Heap) (locs1 : List Loc), sRep D cA b o (h.1, h.2.1, p_up h.2.2 a (.inr (ci, fs.set k v))) H1 → va_S (fun q => b ≤ q) H0 H1 locs1 → W p l e R s m args below meth c H1 locs1 cells slots Q (F0 m (pc + 3) ls rest)) : W p l e R s m args below meth c H locs cells slots Q (F0 m pc ls (rV b o v :: .ref (b + a) :: rest)) := by
  obtain ⟨hn, hf⟩ := p_fit_spec (b := b) (o := o) hfit
  have hin := cl_in ci _ hc
  have hap := va_apart (own := own) hts hin (clTy ci) (cl_ty ci _ hc) (cl_nm ci _ hc) hK hc
  have hd := cl_ty ci _ hc k hk
  have hat := hR.2 a ha
  rw [he] at hat
  obtain ⟨r', h1, cell, q1, q2, q3, q4⟩ := hat
  have hr : r' = r := Option.some.inj (h1.symm.trans hc)
  subst hr
  obtain ⟨C, T, N⟩ := r'
  obtain ⟨hS, hfc, kC, hkC, hkind⟩ := hK.1 ci _ hc
  obtain ⟨cf, kf, fi, f, hi, hsl⟩ := hS k hk
  have hlay := hts _ (hin _ (u_in_lay hk))
  unfold u_lay at hlay
  have hst := (u_facts hfc hkC (u_lays hts hin hk) hi).1
  have new : ∀ H' : Heap, H'[b + a]? = some (cell.setSlot (D.2 ci k) (rV b o v)) → H'.size = H.size → (∀ q, q ≠ b + a → H'[q]? = H[q]?) → sRep D cA b o (h.1, h.2.1, p_up h.2.2 a (.inr (ci, fs.set k v))) H' := by
    intro H' e1 e2 e3
    refine hR.set e2 e3 ?_
    show va_at D vwCl (b + a, .inr (ci, rS b o (fs.set k v))) H'
    have e4 : rS b o (fs.set k v) = (rS b o fs).set k (rV b o v) := by
      unfold rS
      rw [List.map_set]
    rw [e4]
    exact ⟨_, hc, t_OB.to (V := updV (vp_V (rS b o fs)) k (rV b o v)) ⟨_, e1, q2, q3, t_set q4 hap hk _⟩ (fun j _ => vp_updV_set (by unfold rS; rw [List.length_map]; exact hl) _ j)⟩
  rcases hfin with hfin | ⟨hfin, hin2, hdecl⟩
  · rw [if_neg (by rw [hfin]; decide)] at hlay
    have h6 := u_store hfc hkC hkind hlay hi hd hn hf
    refine W.putK hx hb (f := f) ⟨hown, hlink, ⟨_, _, _, hi⟩, hst⟩ (by rw [q2]; exact h6) q1 q3 (by rw [hsl]; exact k2_hasslot (q4 k hk)) rfl rfl hdg fun H' e1 e2 e3 => ?_
    rw [hsl] at e1 ⊢
    exact kk H' _ (new H' e1 e2 e3) (hS0.put e2 e3 (Nat.le_add_right b a))
  · rw [if_pos hfin] at hlay
    have hcf : m.cls = cf := by
      obtain ⟨_, _, c', _, _, _, -, -, hf', -, -, -, hown2, -⟩ := Cond.laysFinal_spec hlay
      have e1 : c' = cf := by have := hi.symm.trans hf'; simp at this; exact this.1.symm
      rw [hdecl] at hown2
      rw [← e1]; exact Option.some.inj (hown.symm.trans hown2)
    have h6 := u_fits hfc hkC hkind (Or.inr hlay) hi hd hn hf
    refine W.putFinK hx hb hown hlink hi hst hcf hin2 (by rw [q2]; exact h6) q1 q3 (by rw [hsl]; exact k2_hasslot (q4 k hk)) rfl rfl hdg fun H' e1 e2 e3 => ?_
    rw [hsl] at e1 ⊢
    exact kk H' _ (new H' e1 e2 e3) (hS0.put e2 e3 (Nat.le_add_right b a))
theorem s_ild (hx : p.tables.exec = Jvm.exec) (hb : c.code = cc) (hK : va_K D vwCl (tysL cA) s) (hR : sRep D cA b o h H) {n : Nat} {f : Nat → Int32} (ha : a < h.1) (he : h.2.2 a = .inl (0, n, .inl f)) {i : Int32} (hin : vp_in i n) (hdg : decode cc pc = .ok (.iaload, 1))
    (kk : W p l e R s m args below meth c H locs cells slots Q (F0 m (pc + 1) ls (.int (f i.toNatClampNeg) :: rest))) : W p l e R s m args below meth c H locs cells slots Q (F0 m pc ls (.int i :: .ref (b + a) :: rest)) := by
  have hat := hR.2 a ha
  rw [he] at hat
  exact va_iald (tys := tysL cA) hx hb hK (va_one hat) 0 0 rfl rfl hin hdg kk
theorem s_lld (hx : p.tables.exec = Jvm.exec) (hb : c.code = cc) (hK : va_K D vwCl (tysL cA) s) (hR : sRep D cA b o h H) {n : Nat} {f : Nat → Int64} (ha : a < h.1) (he : h.2.2 a = .inl (1, n, .inr (.inl f))) {i : Int32} (hin : vp_in i n) (hdg : decode cc pc = .ok (.laload, 1))
    (kk : W p l e R s m args below meth c H locs cells slots Q (F0 m (pc + 1) ls (.long (f i.toNatClampNeg) :: rest))) : W p l e R s m args below meth c H locs cells slots Q (F0 m pc ls (.int i :: .ref (b + a) :: rest)) := by
  have hat := hR.2 a ha
  rw [he] at hat
  exact va_lald (tys := tysL cA) hx hb hK (va_one hat) 0 1 rfl rfl hin hdg kk
theorem s_bld (hx : p.tables.exec = Jvm.exec) (hb : c.code = cc) (hK : va_K D vwCl (tysL cA) s) (hR : sRep D cA b o h H) {n : Nat} {f : Nat → Int32} (ha : a < h.1) (he : h.2.2 a = .inl (3, n, .inl f)) {i : Int32} (hin : vp_in i n) (hdg : decode cc pc = .ok (.baload, 1))
    (kk : W p l e R s m args below meth c H locs cells slots Q (F0 m (pc + 1) ls (.int (f i.toNatClampNeg) :: rest))) : W p l e R s m args below meth c H locs cells slots Q (F0 m pc ls (.int i :: .ref (b + a) :: rest)) := by
  have hat := hR.2 a ha
  rw [he] at hat
  exact va_bald (tys := tysL cA) hx hb hK (va_one hat) 0 3 rfl rfl hin hdg kk
theorem s_ald (hx : p.tables.exec = Jvm.exec) (hb : c.code = cc) (hK : va_K D vwCl (tysL cA) s) (hR : sRep D cA b o h H) {n q : Nat} {f : Nat → Option Nat} (ha : a < h.1) (he : h.2.2 a = .inl (4, n, .inr (.inr (.inr (.inr f))))) {i : Int32} (hin : vp_in i n) (hq : f i.toNatClampNeg = some q) (hdg : decode cc pc = .ok (.aaload, 1))
    (kk : W p l e R s m args below meth c H locs cells slots Q (F0 m (pc + 1) ls (.ref (b + q) :: rest))) : W p l e R s m args below meth c H locs cells slots Q (F0 m pc ls (.int i :: .ref (b + a) :: rest)) := by
  have hat := hR.2 a ha
  rw [he] at hat
  have hlt : i.toNatClampNeg < n := Nat.not_le.mp fun z => hin (Or.inr z)
  exact W.aald (v := .ref (b + q)) hx hb hat ((hK.2 4 _ rfl).1 n (fun j => va_rf ((f j).map (fun q => b + q)))) rfl (fun z => by cases z) (by show ¬ (i < 0 ∨ (arrV _ _ _).slots.size ≤ _); rw [arrV_size]; exact hin) (by show (arrV (cA 4) n (fun j => va_rf ((f j).map (fun q => b + q)))).slots[_]? = _; rw [arrV_read _ _ hlt, hq]; rfl) rfl rfl hdg kk
theorem s_len (hx : p.tables.exec = Jvm.exec) (hb : c.code = cc) (hK : va_K D vwCl (tysL cA) s) (hR : sRep D cA b o h H) {t : Nat} {x : vp_A} (ha : a < h.1) (he : h.2.2 a = .inl (t, x)) (ht : t < 5) (hdg : decode cc pc = .ok (.arraylength, 1))
    (kk : W p l e R s m args below meth c H locs cells slots Q (F0 m (pc + 1) ls (.int (Int32.ofNat x.1) :: rest))) : W p l e R s m args below meth c H locs cells slots Q (F0 m pc ls (.ref (b + a) :: rest)) := by
  have hat := hR.2 a ha
  rw [he] at hat
  have h1 : (rA b x).1 = x.1 := by
    obtain ⟨n, f | f | f | f | f⟩ := x <;> rfl
  have key : ∀ (t : Nat), t < 5 → (tysL cA)[t]? = some (cA t, aTy t) := by
    intro t ht
    match t, ht with
    | 0, _ => rfl
    | 1, _ => rfl
    | 2, _ => rfl
    | 3, _ => rfl
    | 4, _ => rfl
  exact va_alen (tys := tysL cA) hx hb hK (va_one hat) 0 t rfl (key t ht) (by rw [h1]) hdg kk
theorem s_ist (hx : p.tables.exec = Jvm.exec) (hb : c.code = cc) (hK : va_K D vwCl (tysL cA) s) (hR : sRep D cA b o h H) (hS0 : va_S (fun q => b ≤ q) H0 H locs) {n : Nat} {f : Nat → Int32} (ha : a < h.1) (he : h.2.2 a = .inl (0, n, .inl f)) {i x : Int32} (hin : vp_in i n) (hdg : decode cc pc = .ok (.iastore, 1))
    (kk : ∀ (H1 : Heap) (locs1 : List Loc), sRep D cA b o (h.1, h.2.1, p_up h.2.2 a (.inl (0, n, .inl (upd f i.toNatClampNeg x)))) H1 → va_S (fun q => b ≤ q) H0 H1 locs1 → W p l e R s m args below meth c H1 locs1 cells slots Q (F0 m (pc + 1) ls rest)) : W p l e R s m args below meth c H locs cells slots Q (F0 m pc ls (.int x :: .int i :: .ref (b + a) :: rest)) := by
  have hat := hR.2 a ha
  rw [he] at hat
  refine W.iast hx hb hat ((hK.2 0 _ rfl).1 n (fun j => .int (f j))) (fun z => by cases z) (by show ¬ (i < 0 ∨ (arrV _ _ _).slots.size ≤ _); rw [arrV_size]; exact hin) rfl rfl hdg fun H1 e1 z oq => ?_
  refine kk H1 _ (hR.set z oq ?_) (hS0.put z oq (Nat.le_add_right b a))
  show H1[b + a]? = some (vp_cell _ _)
  rw [e1]
  show some ((vp_cell (cA 0) (n, .inl f)).setSlot _ _) = some (vp_cell (cA 0) (n, .inl (upd f i.toNatClampNeg x)))
  rw [vp_cell_i, vp_cell_i, arrV_store]
  congr 2
  funext q
  by_cases hq : q = i.toNatClampNeg
  · subst hq
    simp [updV, upd]
  · simp [updV, upd, hq]
theorem s_lst (hx : p.tables.exec = Jvm.exec) (hb : c.code = cc) (hK : va_K D vwCl (tysL cA) s) (hR : sRep D cA b o h H) (hS0 : va_S (fun q => b ≤ q) H0 H locs) {n : Nat} {f : Nat → Int64} (ha : a < h.1) (he : h.2.2 a = .inl (1, n, .inr (.inl f))) {i : Int32} {x : Int64} (hin : vp_in i n) (hdg : decode cc pc = .ok (.lastore, 1))
    (kk : ∀ (H1 : Heap) (locs1 : List Loc), sRep D cA b o (h.1, h.2.1, p_up h.2.2 a (.inl (1, n, .inr (.inl (vp_updL f i.toNatClampNeg x))))) H1 → va_S (fun q => b ≤ q) H0 H1 locs1 → W p l e R s m args below meth c H1 locs1 cells slots Q (F0 m (pc + 1) ls rest)) : W p l e R s m args below meth c H locs cells slots Q (F0 m pc ls (.long x :: .int i :: .ref (b + a) :: rest)) := by
  have hat := hR.2 a ha
  rw [he] at hat
  refine W.last hx hb hat ((hK.2 1 _ rfl).1 n (fun j => .long (f j))) (fun z => by cases z) (by show ¬ (i < 0 ∨ (arrV _ _ _).slots.size ≤ _); rw [arrV_size]; exact hin) rfl rfl hdg fun H1 e1 z oq => ?_
  refine kk H1 _ (hR.set z oq ?_) (hS0.put z oq (Nat.le_add_right b a))
  show H1[b + a]? = some (vp_cell _ _)
  rw [e1]
  show some ((vp_cell (cA 1) (n, .inr (.inl f))).setSlot _ _) = some (vp_cell (cA 1) (n, .inr (.inl (vp_updL f i.toNatClampNeg x))))
  rw [vp_cell_l, vp_cell_l, arrV_store]
  congr 2
  funext q
  by_cases hq : q = i.toNatClampNeg
  · subst hq
    simp [updV, vp_updL]
  · simp [updV, vp_updL, hq]
theorem s_bst (hx : p.tables.exec = Jvm.exec) (hb : c.code = cc) (hK : va_K D vwCl (tysL cA) s) (hR : sRep D cA b o h H) (hS0 : va_S (fun q => b ≤ q) H0 H locs) {n : Nat} {f : Nat → Int32} (ha : a < h.1) (he : h.2.2 a = .inl (3, n, .inl f)) {i x : Int32} (hin : vp_in i n) (hdg : decode cc pc = .ok (.bastore, 1))
    (kk : ∀ (H1 : Heap) (locs1 : List Loc), sRep D cA b o (h.1, h.2.1, p_up h.2.2 a (.inl (3, n, .inl (upd f i.toNatClampNeg (vp_nar .byte x))))) H1 → va_S (fun q => b ≤ q) H0 H1 locs1 → W p l e R s m args below meth c H1 locs1 cells slots Q (F0 m (pc + 1) ls rest)) : W p l e R s m args below meth c H locs cells slots Q (F0 m pc ls (.int x :: .int i :: .ref (b + a) :: rest)) := by
  have hat := hR.2 a ha
  rw [he] at hat
  refine W.bast hx hb hat ((hK.2 3 _ rfl).1 n (fun j => .int (f j))) (fun z => by cases z) (by show ¬ (i < 0 ∨ (arrV _ _ _).slots.size ≤ _); rw [arrV_size]; exact hin) rfl rfl hdg fun H1 e1 z oq => ?_
  refine kk H1 _ (hR.set z oq ?_) (hS0.put z oq (Nat.le_add_right b a))
  show H1[b + a]? = some (vp_cell _ _)
  rw [e1]
  show some ((vp_cell (cA 3) (n, .inl f)).setSlot _ _) = some (vp_cell (cA 3) (n, .inl (upd f i.toNatClampNeg (vp_nar .byte x))))
  rw [vp_cell_i, vp_cell_i, arrV_store]
  congr 2
  funext q
  by_cases hq : q = i.toNatClampNeg
  · subst hq
    simp [updV, upd, vp_nar]
    try rfl
  · simp [updV, upd, hq]
/-- the fields of a new object -/
def p_dfl (ci N : Nat) : List Value := (List.range N).map (fun j => defaultValue (clTy ci j))
theorem s_new (hx : p.tables.exec = Jvm.exec) (hb : c.code = cc) (hts : ∀ w ∈ gT, w.before args s = true) (hown : s.vm.findClass own = some m.cls) (hK : va_K D vwCl (tysL cA) s) (hR : sRep D cA b o h H) (hS0 : va_S (fun q => b ≤ q) H0 H locs) {ci : Nat} {r : vw_C} (hc : vwCl[ci]? = some r) (hcl : (Cond.classLink own index r.1).before args s = true) (hinst : (Cond.instantiable r.1 r.2.2).before args s = true) (hini : (Cond.initialized r.1).before args s = true) (hcells : cells + 1 ≤ R.cells) (hslots : slots + r.2.2 ≤ R.slots) (hdg : decode cc pc = .ok (.new index, 3))
    (kk : ∀ H1 : Heap, sRep D cA b o (h.1 + 1, h.2.1 + r.2.2, p_up h.2.2 h.1 (.inr (ci, p_dfl ci r.2.2))) H1 → va_S (fun q => b ≤ q) H0 H1 locs → W p l e R s m args below meth c H1 locs (cells + 1) (slots + r.2.2) Q (F0 m (pc + 3) ls (.ref (b + h.1) :: rest))) : W p l e R s m args below meth c H locs cells slots Q (F0 m pc ls rest) := by
  obtain ⟨C, T, N⟩ := r
  have hKn := hK.1 ci _ hc
  refine W.newcK hx hb hown hcl hinst hini rfl hdg hcells hslots hKn.2.1 hR.1 fun H1 kC hkC e1 z1 o1 => ?_
  refine kk H1 (hR.push (by rw [z1, hR.1]) (fun q hq => o1 q (by rw [← hR.1]; exact hq)) ?_) ⟨Nat.le_trans hS0.1 (by rw [z1, hR.1]; omega), fun x h1 h2 => (o1 x (by have := hS0.1; have := hR.1; omega)).trans (hS0.2.1 x h1 h2), hS0.2.2⟩
  refine ⟨_, hc, (u_born (clTy ci) hts (cl_in ci _ hc) hKn hkC e1 (cl_ty ci _ hc)).to fun j hj => ?_⟩
  have e2 : (rS b o (p_dfl ci N))[j]? = some (rV b o (defaultValue (clTy ci j))) := by
    unfold rS p_dfl
    rw [List.getElem?_map, List.getElem?_map, List.getElem?_range hj]
    rfl
  show _ = (rS b o (p_dfl ci N)).getD j .null
  rw [List.getD_eq_getElem?_getD, e2]
  have hnf := cl_nf ci _ hc j hj
  revert hnf
  cases clTy ci j <;> intro hnf <;> first | rfl | exact absurd rfl hnf
/-- the contents of a new array -/
def p_zero (t : Nat) : (Nat → Int32) ⊕ (Nat → Int64) ⊕ (Nat → UInt32) ⊕ (Nat → UInt64) ⊕ (Nat → Option Nat) := if t = 1 then .inr (.inl (fun _ => 0)) else .inl (fun _ => 0)
def p_aty (t : ArrayType) : Option Nat := match t with
  | .int => some 0
  | .long => some 1
  | .byte => some 3
  | _ => none
theorem s_newa (hx : p.tables.exec = Jvm.exec) (hb : c.code = cc) (hK : va_K D vwCl (tysL cA) s) (hR : sRep D cA b o h H) (hS0 : va_S (fun q => b ≤ q) H0 H locs) {at' : ArrayType} {t : Nat} (ht : p_aty at' = some t) (harr : (Cond.arrayClass (aTy t)).before args s = true) {n : Int32} (hn : ¬ n < 0) (hbytes : n.toNatClampNeg * 8 ≤ 536870912) (hcells : cells + 1 ≤ R.cells) (hslots : slots + n.toNatClampNeg ≤ R.slots) (hdg : decode cc pc = .ok (.newarray at', 2))
    (kk : ∀ H1 : Heap, sRep D cA b o (h.1 + 1, h.2.1 + n.toNatClampNeg, p_up h.2.2 h.1 (.inl (t, n.toNatClampNeg, p_zero t))) H1 → va_S (fun q => b ≤ q) H0 H1 locs → W p l e R s m args below meth c H1 locs (cells + 1) (slots + n.toNatClampNeg) Q (F0 m (pc + 2) ls (.ref (b + h.1) :: rest))) : W p l e R s m args below meth c H locs cells slots Q (F0 m pc ls (.int n :: rest)) := by
  have key : newarray.typeOf at' = aTy t ∧ t < 4 := by
    cases at' <;> cases ht <;> exact ⟨rfl, by decide⟩
  obtain ⟨hty, ht4⟩ := key
  have hcb : n.toNatClampNeg * componentBytes (newarray.typeOf at') ≤ 536870912 := by
    have : componentBytes (newarray.typeOf at') ≤ 8 := by cases at' <;> decide
    exact Nat.le_trans (Nat.mul_le_mul_left _ this) hbytes
  refine va_newaK hx hb (by rw [hty]; exact harr) rfl hdg rfl hn rfl hcb hcells hslots hR.1 fun H1 c1 e1 z1 o1 hAr hNm => ?_
  refine kk H1 (hR.push (by rw [z1, hR.1]) (fun q hq => o1 q (by rw [← hR.1]; exact hq)) ?_) ⟨Nat.le_trans hS0.1 (by rw [z1, hR.1]; omega), fun x h1 h2 => (o1 x (by have := hS0.1; have := hR.1; omega)).trans (hS0.2.1 x h1 h2), hS0.2.2⟩
  have hc1 : c1 = cA t := by
    rw [hty] at hNm
    match t, ht4 with
    | 0, _ => exact Option.some.inj (hNm.symm.trans (hK.2 0 _ rfl).2)
    | 1, _ => exact Option.some.inj (hNm.symm.trans (hK.2 1 _ rfl).2)
    | 2, _ => exact Option.some.inj (hNm.symm.trans (hK.2 2 _ rfl).2)
    | 3, _ => exact Option.some.inj (hNm.symm.trans (hK.2 3 _ rfl).2)
  subst hc1
  rw [hty] at e1
  show H1[b + h.1]? = some (vp_cell _ _)
  rw [e1]
  match t, ht4 with
  | 0, _ => rfl
  | 1, _ => rfl
  | 2, _ => rfl
  | 3, _ => rfl
end SIMH
