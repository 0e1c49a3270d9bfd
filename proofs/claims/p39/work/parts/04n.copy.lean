/-! System.arraycopy between rows of ints, or of longs -/
def p_copy (st : List Value) (h : pH) : Option (List Value × pH) := match st with
  | .int n :: .int dp :: .ref a1 :: .int sp :: .ref a0 :: r => if ((a0 < h.1 ∧ a1 < h.1) ∧ (¬ sp < 0 ∧ ¬ dp < 0 ∧ ¬ n < 0)) ∧ (r.map fun v => v.category).sum ≤ 8 then (match h.2.2 a0 with
    | .inl (0, n0, .inl f) => match h.2.2 a1 with
      | .inl (0, n1, .inl g) => if sp.toNatClampNeg + n.toNatClampNeg ≤ n0 ∧ dp.toNatClampNeg + n.toNatClampNeg ≤ n1 then some (r, (h.1, h.2.1, p_up h.2.2 a1 (.inl (0, n1, .inl (va_cpy f g sp.toNatClampNeg dp.toNatClampNeg n.toNatClampNeg))))) else none
      | _ => none
    | .inl (1, n0, .inr (.inl f)) => match h.2.2 a1 with
      | .inl (1, n1, .inr (.inl g)) => if sp.toNatClampNeg + n.toNatClampNeg ≤ n0 ∧ dp.toNatClampNeg + n.toNatClampNeg ≤ n1 then some (r, (h.1, h.2.1, p_up h.2.2 a1 (.inl (1, n1, .inr (.inl (va_cpy f g sp.toNatClampNeg dp.toNatClampNeg n.toNatClampNeg)))))) else none
      | _ => none
    | _ => none) else none
  | _ => none
theorem gT_ac1 : Cond.native arraycopyName ∈ gT := gT_place (i := 1013) (by decide +kernel) (by decide +kernel)
theorem gT_ac2 : Cond.static arraycopyName ∈ gT := gT_place (i := 1012) (by decide +kernel) (by decide +kernel)
theorem gT_ac3 : Cond.initialized "java/lang/System" ∈ gT := gT_place (i := 112) (by decide +kernel) (by decide +kernel)
section SIMK
variable {p : Program} {l : Launch} {e : Env} {R : Room} {s : State} {m : MethodId} {args : Array Value} {below : List Frame} {meth : Method} {c : Code} {H : Heap} {locs : List Loc} {cells slots : Nat} {Q : State → Prop} {cc : ByteArray}
variable {pc : Nat} {ls : Array Slot} {rest : List Value} {D : va_G} {cA : Nat → ClassId} {b : Nat} {o : Nat → Nat} {h : pH} {H0 : Heap} {own : String} {index : Nat} {a0 a1 : Nat}
theorem p_nn : ∀ z : Int32, ¬ z < 0 → z.toInt = (z.toNatClampNeg : Int) := by
  intro z hz
  have hz0 : (0 : Int) ≤ z.toInt := by
    have := Int32.not_lt.mp hz
    simpa using Int32.le_iff_toInt_le.mp this
  show z.toInt = ((z.toInt.toNat : Nat) : Int)
  omega
theorem s_cpyi (hexec : p.tables.exec = Jvm.exec) (hb : c.code = cc) (hml : c.maxLocals = ls.size) (hts : ∀ w ∈ gT, w.before args s = true) (hown : s.vm.findClass own = some m.cls) (hlink : (Cond.methodLink own index arraycopyName).before args s = true)
    (hK : va_K D vwCl (tysL cA) s) (hR : sRep D cA b o h H) (hS : va_S (fun q => b ≤ q) H0 H locs) {n0 n1 : Nat} {f g : Nat → Int32} (q0 : a0 < h.1) (q1 : a1 < h.1) (he0 : h.2.2 a0 = .inl (0, n0, .inl f)) (he1 : h.2.2 a1 = .inl (0, n1, .inl g))
    {sp dp n : Int32} (h1 : ¬ sp < 0) (h2 : ¬ dp < 0) (h3 : ¬ n < 0) (h4 : sp.toNatClampNeg + n.toNatClampNeg ≤ n0) (h5 : dp.toNatClampNeg + n.toNatClampNeg ≤ n1)
    (hframes : 1 ≤ R.frames) (hlocals : (rest.map fun v => v.category).sum + 20 ≤ R.locals) (hdg : decode cc pc = .ok (.invokestatic index, 3))
    (kk : ∀ (H1 : Heap) (locs1 : List Loc), sRep D cA b o (h.1, h.2.1, p_up h.2.2 a1 (.inl (0, n1, .inl (va_cpy f g sp.toNatClampNeg dp.toNatClampNeg n.toNatClampNeg)))) H1 → va_S (fun q => b ≤ q) H0 H1 locs1 → W p l e R s m args below meth c H1 locs1 cells slots Q (F0 m (pc + 3) ls rest)) : W p l e R s m args below meth c H locs cells slots Q (F0 m pc ls (.int n :: .int dp :: .ref (b + a1) :: .int sp :: .ref (b + a0) :: rest)) := by
  have nn := p_nn
  have hnf : nativeFrameWords "java/lang/System" "arraycopy" 5 + 11 ≤ 20 := by decide
  intro T hT X
  have hc0 : H[b + a0]? = some (vp_cell (cA 0) (n0, .inl f)) := by
    have := hR.2 a0 q0
    rw [he0] at this
    exact this
  have hc1 : H[b + a1]? = some (vp_cell (cA 0) (n1, .inl g)) := by
    have := hR.2 a1 q1
    rw [he1] at this
    exact this
  obtain ⟨-, k0, hk0, cm0, hkk0⟩ := (hK.2 0 _ rfl).1 n0 (fun j => .int (f j))
  obtain ⟨-, k1, hk1, cm1, hkk1⟩ := (hK.2 0 _ rfl).1 n1 (fun j => .int (g j))
  obtain ⟨vm', X', step⟩ := X.arraycopy hexec hown hlink (hts _ gT_ac1) (hts _ gT_ac2) (hts _ gT_ac3) (src := b + a0) (dst := b + a1) (cs := vp_cell (cA 0) (n0, .inl f)) (cd := vp_cell (cA 0) (n1, .inl g)) (srcPos := sp) (destPos := dp) (n := n) (by rw [hT]; exact hc0) (by rw [hT]; exact hc1)
    (fun _ h => by cases h) (fun _ h => by cases h) (fun h => by cases h) (fun h => by cases h) hk0 hk1 hkk0 hkk1 (by simp [refKind]) h1 h2 h3
    (by rw [nn sp h1, nn n h3]; show ¬ _ > ((arrV (cA 0) n0 (fun j => .int (f j))).slots.size : Int); rw [arrV_size]; omega)
    (by rw [nn dp h2, nn n h3]; show ¬ _ > ((arrV (cA 0) n1 (fun j => .int (g j))).slots.size : Int); rw [arrV_size]; omega)
    (fun vm₁ _ i hi => by
      have e : (vp_cell (cA 0) (n0, .inl f)).slots.getD (sp.toNatClampNeg + i) .null = .int (f (sp.toNatClampNeg + i)) := by
        show (arrV (cA 0) n0 (fun j => .int (f j))).slots.getD _ _ = _
        rw [Array.getD_eq_getD_getElem?, arrV_read _ _ (by omega)]
        rfl
      refine ⟨?_, ?_⟩
      · rw [e]
        rfl
      · rw [e]
        exact trivial)
    (g := F0 m pc ls (.int n :: .int dp :: .ref (b + a1) :: .int sp :: .ref (b + a0) :: rest)) rfl (by rw [hml]) (rest := rest) rfl (by rw [hb]; exact hdg) hframes (by show 2 * 0 + _ + _ ≤ _; omega)
  have e1 : copied (vp_cell (cA 0) (n0, .inl f)) (vp_cell (cA 0) (n1, .inl g)) sp dp n = vp_cell (cA 0) (n1, .inl (va_cpy f g sp.toNatClampNeg dp.toNatClampNeg n.toNatClampNeg)) := va_copied (fun z => .int z) (cA 0) (cA 0) f g h4
  rw [e1] at X' step
  have hl : b + a1 < H.size := (Array.getElem?_eq_some_iff.mp hc1).1
  have hheap : ((T.setVm vm').setCell (b + a1) (vp_cell (cA 0) (n1, .inl (va_cpy f g sp.toNatClampNeg dp.toNatClampNeg n.toNatClampNeg)))).heap = H.setIfInBounds (b + a1) (vp_cell (cA 0) (n1, .inl (va_cpy f g sp.toNatClampNeg dp.toNatClampNeg n.toNatClampNeg))) := by rw [← hT]; rfl
  have oq : ∀ q : Nat, q ≠ b + a1 → (H.setIfInBounds (b + a1) (vp_cell (cA 0) (n1, .inl (va_cpy f g sp.toNatClampNeg dp.toNatClampNeg n.toNatClampNeg))))[q]? = H[q]? := fun q hq => by simp [Array.getElem?_setIfInBounds, Ne.symm hq]
  obtain ⟨t, x1, y1⟩ := kk _ _ (hR.set (by simp) oq (show (H.setIfInBounds (b + a1) _)[b + a1]? = some _ by simp [Array.getElem?_setIfInBounds, hl]; rfl)) ⟨by simp; exact hS.1, fun q g1 g2 => by
      rw [oq q (fun e => g2 (by rw [e]; exact Nat.le_add_right b a1))]
      exact hS.2.1 q g1 g2, fun q hq => by
      rcases List.mem_append.mp hq with h | h
      · exact hS.2.2 q h
      · obtain ⟨z, -, hz⟩ := List.mem_map.mp h
        rw [← hz]
        exact Nat.le_add_right b a1⟩ _ hheap X'
  exact ⟨t, step t x1, y1⟩
theorem s_cpyl (hexec : p.tables.exec = Jvm.exec) (hb : c.code = cc) (hml : c.maxLocals = ls.size) (hts : ∀ w ∈ gT, w.before args s = true) (hown : s.vm.findClass own = some m.cls) (hlink : (Cond.methodLink own index arraycopyName).before args s = true)
    (hK : va_K D vwCl (tysL cA) s) (hR : sRep D cA b o h H) (hS : va_S (fun q => b ≤ q) H0 H locs) {n0 n1 : Nat} {f g : Nat → Int64} (q0 : a0 < h.1) (q1 : a1 < h.1) (he0 : h.2.2 a0 = .inl (1, n0, .inr (.inl f))) (he1 : h.2.2 a1 = .inl (1, n1, .inr (.inl g)))
    {sp dp n : Int32} (h1 : ¬ sp < 0) (h2 : ¬ dp < 0) (h3 : ¬ n < 0) (h4 : sp.toNatClampNeg + n.toNatClampNeg ≤ n0) (h5 : dp.toNatClampNeg + n.toNatClampNeg ≤ n1)
    (hframes : 1 ≤ R.frames) (hlocals : (rest.map fun v => v.category).sum + 20 ≤ R.locals) (hdg : decode cc pc = .ok (.invokestatic index, 3))
    (kk : ∀ (H1 : Heap) (locs1 : List Loc), sRep D cA b o (h.1, h.2.1, p_up h.2.2 a1 (.inl (1, n1, .inr (.inl (va_cpy f g sp.toNatClampNeg dp.toNatClampNeg n.toNatClampNeg))))) H1 → va_S (fun q => b ≤ q) H0 H1 locs1 → W p l e R s m args below meth c H1 locs1 cells slots Q (F0 m (pc + 3) ls rest)) : W p l e R s m args below meth c H locs cells slots Q (F0 m pc ls (.int n :: .int dp :: .ref (b + a1) :: .int sp :: .ref (b + a0) :: rest)) := by
  have nn := p_nn
  have hnf : nativeFrameWords "java/lang/System" "arraycopy" 5 + 11 ≤ 20 := by decide
  intro T hT X
  have hc0 : H[b + a0]? = some (vp_cell (cA 1) (n0, .inr (.inl f))) := by
    have := hR.2 a0 q0
    rw [he0] at this
    exact this
  have hc1 : H[b + a1]? = some (vp_cell (cA 1) (n1, .inr (.inl g))) := by
    have := hR.2 a1 q1
    rw [he1] at this
    exact this
  obtain ⟨-, k0, hk0, cm0, hkk0⟩ := (hK.2 1 _ rfl).1 n0 (fun j => .long (f j))
  obtain ⟨-, k1, hk1, cm1, hkk1⟩ := (hK.2 1 _ rfl).1 n1 (fun j => .long (g j))
  obtain ⟨vm', X', step⟩ := X.arraycopy hexec hown hlink (hts _ gT_ac1) (hts _ gT_ac2) (hts _ gT_ac3) (src := b + a0) (dst := b + a1) (cs := vp_cell (cA 1) (n0, .inr (.inl f))) (cd := vp_cell (cA 1) (n1, .inr (.inl g))) (srcPos := sp) (destPos := dp) (n := n) (by rw [hT]; exact hc0) (by rw [hT]; exact hc1)
    (fun _ h => by cases h) (fun _ h => by cases h) (fun h => by cases h) (fun h => by cases h) hk0 hk1 hkk0 hkk1 (by simp [refKind]) h1 h2 h3
    (by rw [nn sp h1, nn n h3]; show ¬ _ > ((arrV (cA 1) n0 (fun j => .long (f j))).slots.size : Int); rw [arrV_size]; omega)
    (by rw [nn dp h2, nn n h3]; show ¬ _ > ((arrV (cA 1) n1 (fun j => .long (g j))).slots.size : Int); rw [arrV_size]; omega)
    (fun vm₁ _ i hi => by
      have e : (vp_cell (cA 1) (n0, .inr (.inl f))).slots.getD (sp.toNatClampNeg + i) .null = .long (f (sp.toNatClampNeg + i)) := by
        show (arrV (cA 1) n0 (fun j => .long (f j))).slots.getD _ _ = _
        rw [Array.getD_eq_getD_getElem?, arrV_read _ _ (by omega)]
        rfl
      refine ⟨?_, ?_⟩
      · rw [e]
        rfl
      · rw [e]
        exact trivial)
    (g := F0 m pc ls (.int n :: .int dp :: .ref (b + a1) :: .int sp :: .ref (b + a0) :: rest)) rfl (by rw [hml]) (rest := rest) rfl (by rw [hb]; exact hdg) hframes (by show 2 * 0 + _ + _ ≤ _; omega)
  have e1 : copied (vp_cell (cA 1) (n0, .inr (.inl f))) (vp_cell (cA 1) (n1, .inr (.inl g))) sp dp n = vp_cell (cA 1) (n1, .inr (.inl (va_cpy f g sp.toNatClampNeg dp.toNatClampNeg n.toNatClampNeg))) := va_copied (fun z => .long z) (cA 1) (cA 1) f g h4
  rw [e1] at X' step
  have hl : b + a1 < H.size := (Array.getElem?_eq_some_iff.mp hc1).1
  have hheap : ((T.setVm vm').setCell (b + a1) (vp_cell (cA 1) (n1, .inr (.inl (va_cpy f g sp.toNatClampNeg dp.toNatClampNeg n.toNatClampNeg))))).heap = H.setIfInBounds (b + a1) (vp_cell (cA 1) (n1, .inr (.inl (va_cpy f g sp.toNatClampNeg dp.toNatClampNeg n.toNatClampNeg)))) := by rw [← hT]; rfl
  have oq : ∀ q : Nat, q ≠ b + a1 → (H.setIfInBounds (b + a1) (vp_cell (cA 1) (n1, .inr (.inl (va_cpy f g sp.toNatClampNeg dp.toNatClampNeg n.toNatClampNeg)))))[q]? = H[q]? := fun q hq => by simp [Array.getElem?_setIfInBounds, Ne.symm hq]
  obtain ⟨t, x1, y1⟩ := kk _ _ (hR.set (by simp) oq (show (H.setIfInBounds (b + a1) _)[b + a1]? = some _ by simp [Array.getElem?_setIfInBounds, hl]; rfl)) ⟨by simp; exact hS.1, fun q g1 g2 => by
      rw [oq q (fun e => g2 (by rw [e]; exact Nat.le_add_right b a1))]
      exact hS.2.1 q g1 g2, fun q hq => by
      rcases List.mem_append.mp hq with h | h
      · exact hS.2.2 q h
      · obtain ⟨z, -, hz⟩ := List.mem_map.mp h
        rw [← hz]
        exact Nat.le_add_right b a1⟩ _ hheap X'
  exact ⟨t, step t x1, y1⟩
theorem p_copy_mono {st r : List Value} {h' : pH} (hs : p_copy st h = some (r, h')) : h.1 ≤ h'.1 ∧ h.2.1 ≤ h'.2.1 := by
  have key : ∀ {y : List Value × pH}, some y = some (r, h') → (h.1 ≤ y.2.1 ∧ h.2.1 ≤ y.2.2.1) → h.1 ≤ h'.1 ∧ h.2.1 ≤ h'.2.1 := by
    intro y hy hz
    cases hy
    exact hz
  unfold p_copy at hs
  repeat' split at hs
  all_goals first
    | exact key hs ⟨Nat.le_refl _, Nat.le_refl _⟩
    | cases hs
theorem s_copy {st r : List Value} {h' : pH} (hexec : p.tables.exec = Jvm.exec) (hb : c.code = cc) (hml : c.maxLocals = ls.size) (hts : ∀ w ∈ gT, w.before args s = true) (hown : s.vm.findClass own = some m.cls) (hlink : (Cond.methodLink own index arraycopyName).before args s = true)
    (hK : va_K D vwCl (tysL cA) s) (hR : sRep D cA b o h H) (hS : va_S (fun q => b ≤ q) H0 H locs) (hframes : 1 ≤ R.frames) (hlocals : 40 ≤ R.locals) (hdg : decode cc pc = .ok (.invokestatic index, 3)) (hs : p_copy st h = some (r, h'))
    (kk : ∀ (H1 : Heap) (locs1 : List Loc), h'.1 = h.1 ∧ h'.2.1 = h.2.1 → sRep D cA b o h' H1 → va_S (fun q => b ≤ q) H0 H1 locs1 → W p l e R s m args below meth c H1 locs1 cells slots Q (F0 m (pc + 3) ls (rS b o r))) : W p l e R s m args below meth c H locs cells slots Q (F0 m pc ls (rS b o st)) := by
  unfold p_copy at hs
  split at hs
  · rename_i n dp a1 sp a0 r0
    split at hs
    · rename_i hg
      obtain ⟨⟨⟨g1, g2⟩, g3, g4, g5⟩, g6⟩ := hg
      have hroom : ((rS b o r0).map fun v => v.category).sum + 20 ≤ R.locals := by
        have e1 : ((rS b o r0).map fun v => v.category).sum = (r0.map fun v => v.category).sum := by
          unfold rS
          rw [List.map_map]
          congr 1
          apply List.map_congr_left
          intro v _
          exact rV_cat b o v
        omega
      split at hs
      · rename_i n0 f he0
        split at hs
        · rename_i n1 g he1
          split at hs
          · rename_i hz
            cases hs
            exact s_cpyi hexec hb hml hts hown hlink hK hR hS g1 g2 he0 he1 g3 g4 g5 hz.1 hz.2 hframes hroom hdg (fun H1 locs1 z1 z2 => kk H1 locs1 ⟨rfl, rfl⟩ z1 z2)
          · cases hs
        · cases hs
      · rename_i n0 f he0
        split at hs
        · rename_i n1 g he1
          split at hs
          · rename_i hz
            cases hs
            exact s_cpyl hexec hb hml hts hown hlink hK hR hS g1 g2 he0 he1 g3 g4 g5 hz.1 hz.2 hframes hroom hdg (fun H1 locs1 z1 z2 => kk H1 locs1 ⟨rfl, rfl⟩ z1 z2)
          · cases hs
        · cases hs
      · cases hs
    · cases hs
  · cases hs
end SIMK
