/-! new int[n][k]: the outer array, then the inner ones, one behind the other -/
theorem vr_outer (c : ClassId) (N h0 : Nat) : ∀ i : Nat, Jvm.Free.Multi.outerC c N h0 i = arrV c N (fun j => va_rf (if j < i then some (h0 + 1 + j) else none))
  | 0 => by
    show ({ cls := c, slots := Array.replicate N .null, vm := .none } : Cell) = _
    rw [arrV_new]
    refine congrArg (arrV c N) (funext fun j => ?_)
    simp [va_rf]
  | i + 1 => by
    show (Jvm.Free.Multi.outerC c N h0 i).setSlot i (.ref (h0 + 1 + i)) = _
    rw [vr_outer c N h0 i, arrV_store]
    refine congrArg (arrV c N) (funext fun j => ?_)
    by_cases e : j = i
    · subst e
      simp [updV, va_rf]
    · by_cases h : j < i
      · simp [updV, e, h, Nat.lt_succ_of_lt h]
      · simp [updV, e, h, show ¬ j < i + 1 by omega]
/-- the cells behind new int[n][k] -/
def p_mna (n k : Nat) (h : pH) : pH := (h.1 + 1 + n, h.2.1 + n + n * k, fun j => if j = h.1 then .inl (4, n, .inr (.inr (.inr (.inr (fun i => if i < n then some (h.1 + 1 + i) else none))))) else if h.1 < j then .inl (0, k, .inl (fun _ => 0)) else h.2.2 j)
section SIMM
variable {p : Program} {l : Launch} {e : Env} {R : Room} {s : State} {m : MethodId} {args : Array Value} {below : List Frame} {meth : Method} {c : Code} {H : Heap} {locs : List Loc} {cells slots : Nat} {Q : State → Prop} {cc : ByteArray}
variable {pc : Nat} {ls : Array Slot} {rest : List Value} {D : va_G} {cA : Nat → ClassId} {b : Nat} {o : Nat → Nat} {h : pH} {H0 : Heap} {own : String} {index : Nat} {a : Nat}
theorem s_mna (hexec : p.tables.exec = Jvm.exec) (hb : c.code = cc) (hown : s.vm.findClass own = some m.cls) (hclink : (Cond.classLink own index "[[I").before args s = true) (hover : (Cond.arrayOver (.array .int)).before #[] s = true) (harr : (Cond.arrayClass .int).before args s = true)
    (hK : va_K D vwCl (tysL cA) s) (hR : sRep D cA b o h H) (hS : va_S (fun q => b ≤ q) H0 H locs) {n k : Int32} (hn : ¬ n < 0) (hk : ¬ k < 0)
    (hb1 : n.toNatClampNeg * 4 ≤ 536870912) (hb2 : k.toNatClampNeg * 4 ≤ 536870912) (hcells : cells + (1 + n.toNatClampNeg) ≤ R.cells) (hslots : slots + (n.toNatClampNeg + n.toNatClampNeg * k.toNatClampNeg) ≤ R.slots) (hdg : decode cc pc = .ok (.multianewarray index 2, 4))
    (kk : ∀ H1 : Heap, sRep D cA b o (p_mna n.toNatClampNeg k.toNatClampNeg h) H1 → va_S (fun q => b ≤ q) H0 H1 locs → W p l e R s m args below meth c H1 locs (cells + 1 + n.toNatClampNeg) (slots + n.toNatClampNeg + n.toNatClampNeg * k.toNatClampNeg) Q (F0 m (pc + 4) ls (.ref (b + h.1) :: rest))) : W p l e R s m args below meth c H locs cells slots Q (F0 m pc ls (.int k :: .int n :: rest)) := by
  intro T hT Xs
  obtain ⟨vm₁, c4, comp, -, fA, fC, hO, -, X', step⟩ := Xs.multianewarray2F (ty := .int) hexec hown hclink hover harr (g := F0 m pc ls (.int k :: .int n :: rest)) rfl (by rw [hb]; exact hdg) rfl hn hk hb1 hb2 (by omega) rfl rfl hcells hslots
  generalize hF : Jvm.Free.Multi.fill (T.setVm vm₁) c4 comp n.toNatClampNeg k.toNatClampNeg (defaultValue .int) n.toNatClampNeg = F at X' step
  have hTh : (T.setVm vm₁).heap = H := hT
  obtain ⟨f1, f2, -, -⟩ := Jvm.Free.Multi.fill_facts (T.setVm vm₁) c4 comp n.toNatClampNeg k.toNatClampNeg (defaultValue .int) n.toNatClampNeg
  rw [hF, hTh] at f1 f2
  have hold : ∀ x : Nat, x < H.size → F.heap[x]? = H[x]? := fun x hx => by
    have := Jvm.Free.Multi.fill_old (T.setVm vm₁) c4 comp n.toNatClampNeg k.toNatClampNeg (defaultValue .int) (a := x) (by rw [hTh]; exact hx) n.toNatClampNeg
    rw [hF, hTh] at this
    exact this
  have hrow : ∀ j : Nat, j < n.toNatClampNeg → F.heap[H.size + 1 + j]? = some (Jvm.Free.Multi.innerC comp k.toNatClampNeg (defaultValue .int)) := fun j hj => by
    have := Jvm.Free.Multi.fill_inner (T.setVm vm₁) c4 comp n.toNatClampNeg k.toNatClampNeg (defaultValue .int) n.toNatClampNeg j hj
    rw [hF, hTh] at this
    exact this
  rw [vr_outer] at f2
  have e4 : c4 = cA 4 := Option.some.inj (fA.symm.trans (hK.2 4 _ rfl).2)
  have e0 : comp = cA 0 := Option.some.inj (fC.symm.trans (hK.2 0 _ rfl).2)
  have hz := hR.1
  have hRep : sRep D cA b o (p_mna n.toNatClampNeg k.toNatClampNeg h) F.heap := by
    refine ⟨by rw [f1, hz]; show b + h.1 + 1 + n.toNatClampNeg = b + (h.1 + 1 + n.toNatClampNeg); omega, fun j hj => ?_⟩
    have hj : j < h.1 + 1 + n.toNatClampNeg := hj
    show va_at D vwCl (b + j, rE b o cA (if j = h.1 then .inl (4, n.toNatClampNeg, .inr (.inr (.inr (.inr (fun i => if i < n.toNatClampNeg then some (h.1 + 1 + i) else none))))) else if h.1 < j then .inl (0, k.toNatClampNeg, .inl (fun _ => 0)) else h.2.2 j)) F.heap
    by_cases h1 : j = h.1
    · rw [if_pos h1, h1]
      show F.heap[b + h.1]? = some (vp_cell (cA 4) (n.toNatClampNeg, .inr (.inr (.inr (.inr (fun i => (if i < n.toNatClampNeg then some (h.1 + 1 + i) else none).map (fun q => b + q)))))))
      rw [← hz, f2, e4, vp_cell_q]
      congr 2
      funext i
      congr 1
      by_cases hi : i < n.toNatClampNeg
      · rw [if_pos hi, if_pos hi, hz]
        show some (b + h.1 + 1 + i) = some (b + (h.1 + 1 + i))
        congr 1
        omega
      · rw [if_neg hi, if_neg hi]
        rfl
    · rw [if_neg h1]
      by_cases h2 : h.1 < j
      · rw [if_pos h2]
        have h3 := hrow (j - (h.1 + 1)) (by omega)
        have h4 : H.size + 1 + (j - (h.1 + 1)) = b + j := by omega
        rw [h4, e0] at h3
        show F.heap[b + j]? = some (vp_cell (cA 0) (k.toNatClampNeg, .inl (fun _ => 0)))
        rw [h3, vp_cell_i]
        show some ({ cls := cA 0, slots := Array.replicate k.toNatClampNeg (.int 0), vm := .none } : Cell) = _
        rw [arrV_new]
      · rw [if_neg h2]
        exact (hR.2 j (by omega)).kept (hold (b + j) (by omega))
  obtain ⟨t, a1, b1⟩ := kk F.heap hRep ⟨by rw [f1]; have := hS.1; omega, fun x h1 h2 => (hold x (Nat.lt_of_lt_of_le h1 hS.1)).trans (hS.2.1 x h1 h2), hS.2.2⟩ F rfl X'
  refine ⟨t, step t ?_, b1⟩
  have e : T.heap.size = b + h.1 := by rw [hT, hz]
  rw [e]
  exact a1
end SIMM
