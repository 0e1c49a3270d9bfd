/-! LAWS, the model's side: what a judged law shows. -/
section JGM
variable {en : pN} {d w nc nl nt n k a e a2 e2 N : Nat} {σ : qS} {O Q : fI} {P : Nat → fI} {X : xT} {fw fr : Bool} {W : Nat → Bool}
theorem mod16 {m : Nat} : m % 16 = 0 ↔ ∀ c, c < 4 → m.testBit c = false := by
  constructor
  · intro h c hc
    have : (m % 2 ^ 4).testBit c = m.testBit c := by rw [Nat.testBit_mod_two_pow, decide_eq_true hc, Bool.true_and]
    rw [← this, show m % 2 ^ 4 = 0 from h, Nat.zero_testBit]
  · intro h
    refine Nat.eq_of_testBit_eq fun i => ?_
    rw [show (16 : Nat) = 2 ^ 4 from rfl, Nat.testBit_mod_two_pow, Nat.zero_testBit]
    by_cases q : i < 4
    · rw [h i q, Bool.and_false]
    · rw [decide_eq_false q, Bool.false_and]
theorem mJ_bit {v c : Nat} (hc : c < 4) : (mJ P w nt X v).testBit c = (rdl P w (xS X v) nt nt).any (fun a => decide (a / 10 = c)) := by
  rw [mrkN_bit (by omega), decide_eq_false (by omega), Bool.and_false, Bool.false_or]
theorem mJ_end (hP : PV P nc nl nt n) (hX : XV P w nc nl nt n X) {v : Nat} (hv : v < xN X) : endC P w (xS X v) nt = decide (mJ P w nt X v % 16 = 0) := by
  have hlt : ∀ a ∈ rdl P w (xS X v) nt nt, a < 40 := fun a ha => rdl_lt hP (hX.2.1 v hv) ha
  show decide (rdl P w (xS X v) nt nt = []) = _
  by_cases q : rdl P w (xS X v) nt nt = []
  · rw [decide_eq_true q, decide_eq_true (mod16.mpr (fun c hc => by rw [mJ_bit hc, q]; rfl))]
  · rw [decide_eq_false q, decide_eq_false (fun h => by
      obtain ⟨a, ha⟩ := List.exists_mem_of_ne_nil _ q
      have h40 := hlt a ha
      have := mod16.mp h (a / 10) (by omega)
      rw [mJ_bit (by omega), List.any_eq_false] at this
      exact this a ha (decide_eq_true rfl))]
theorem m_mjH (hP : PV P nc nl nt n) (hX : XV P w nc nl nt n X) (hJ : XJ X (xN X + 1)) (hm : EXm P w nc nl nt n fw X σ) (hW : ∀ v, v < xN X → σ.1 233 v = bt (W v)) : mjH (xA X) (xaE X) (xaT X) (mJ P w nt X) W (xN X) nt σ := by
  have hlim := @lim_le w
  have hxN := hX.1.2
  obtain ⟨hw, hd, hA, h98, h99, h100⟩ := hm.flat
  obtain ⟨b1, ⟨b2, b3, b4⟩, ⟨b5, b6⟩, b7, b8, b9⟩ := hw
  obtain ⟨c1, c2, c3⟩ := hd
  have hM := hJ.2.1 (xN X) (by omega)
  have hM2 := hX.2.2.2.1
  refine ⟨⟨by omega, by omega⟩, fun i j h1 h2 => hJ.1 i j h1 (by omega), hA, fun e he => ⟨(b8 e (by omega)).1, (b8 e (by omega)).2, hX.2.2.2.2.1 e (by omega)⟩, ⟨b5, b4, hP.2.2.1.2⟩, fun v hv => ⟨hW v hv, by rw [(c2 v hv).2.1, mJ_end hP hX hv], fun t ht => ?_⟩⟩
  rw [(c2 v hv).1, mJ_bit ht]
  unfold bI'
  rw [rdM_bit hP (hX.2.1 v hv) (by omega) nt (Nat.le_refl _)]
end JGM
